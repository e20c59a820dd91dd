theorem dX11_refuse_0 : decode cX11_refuse 0 = .ok (.aload_n 0, 1) := by decide +kernel
theorem dX11_refuse_1 : decode cX11_refuse 1 = .ok (.iload_n 1, 1) := by decide +kernel
theorem dX11_refuse_2 : decode cX11_refuse 2 = .ok (.putfield 83, 3) := by decide +kernel
theorem dX11_refuse_5 : decode cX11_refuse 5 = .ok (.iconst (-1), 1) := by decide +kernel
theorem dX11_refuse_6 : decode cX11_refuse 6 = .ok (.ireturn, 1) := by decide +kernel
theorem dX11_accept_0 : decode cX11_accept 0 = .ok (.aload_n 0, 1) := by decide +kernel
theorem dX11_accept_1 : decode cX11_accept 1 = .ok (.iconst 0, 1) := by decide +kernel
theorem dX11_accept_2 : decode cX11_accept 2 = .ok (.putfield 83, 3) := by decide +kernel
theorem dX11_accept_5 : decode cX11_accept 5 = .ok (.iload_n 1, 1) := by decide +kernel
theorem dX11_accept_6 : decode cX11_accept 6 = .ok (.ireturn, 1) := by decide +kernel
theorem dX11_board_0 : decode cX11_board 0 = .ok (.iload_n 1, 1) := by decide +kernel
theorem dX11_board_1 : decode cX11_board 1 = .ok (.iconst 2, 1) := by decide +kernel
theorem dX11_board_2 : decode cX11_board 2 = .ok (.if_icmp .eq 8, 3) := by decide +kernel
theorem dX11_board_5 : decode cX11_board 5 = .ok (.iload_n 1, 1) := by decide +kernel
theorem dX11_board_6 : decode cX11_board 6 = .ok (.iconst 4, 1) := by decide +kernel
theorem dX11_board_7 : decode cX11_board 7 = .ok (.if_icmp .ne 14, 3) := by decide +kernel
theorem dX11_board_10 : decode cX11_board 10 = .ok (.iload_n 2, 1) := by decide +kernel
theorem dX11_board_11 : decode cX11_board 11 = .ok (.iconst 1, 1) := by decide +kernel
theorem dX11_board_12 : decode cX11_board 12 = .ok (.if_icmp .lt 9, 3) := by decide +kernel
theorem dX11_board_15 : decode cX11_board 15 = .ok (.iload_n 2, 1) := by decide +kernel
theorem dX11_board_16 : decode cX11_board 16 = .ok (.bipush 8, 2) := by decide +kernel
theorem dX11_board_18 : decode cX11_board 18 = .ok (.if_icmp .le 10, 3) := by decide +kernel
theorem dX11_board_21 : decode cX11_board 21 = .ok (.aload_n 0, 1) := by decide +kernel
theorem dX11_board_22 : decode cX11_board 22 = .ok (.bipush 7, 2) := by decide +kernel
theorem dX11_board_24 : decode cX11_board 24 = .ok (.invokevirtual 91, 3) := by decide +kernel
theorem dX11_board_27 : decode cX11_board 27 = .ok (.ireturn, 1) := by decide +kernel
theorem dX11_board_28 : decode cX11_board 28 = .ok (.aload_n 0, 1) := by decide +kernel
theorem dX11_board_29 : decode cX11_board 29 = .ok (.iload_n 1, 1) := by decide +kernel
theorem dX11_board_30 : decode cX11_board 30 = .ok (.iload_n 2, 1) := by decide +kernel
theorem dX11_board_31 : decode cX11_board 31 = .ok (.invokevirtual 87, 3) := by decide +kernel
theorem dX11_board_34 : decode cX11_board 34 = .ok (.aload_n 0, 1) := by decide +kernel
theorem dX11_board_35 : decode cX11_board 35 = .ok (.aload_n 0, 1) := by decide +kernel
theorem dX11_board_36 : decode cX11_board 36 = .ok (.getfield 12, 3) := by decide +kernel
theorem dX11_board_39 : decode cX11_board 39 = .ok (.getfield 95, 3) := by decide +kernel
theorem dX11_board_42 : decode cX11_board 42 = .ok (.invokevirtual 98, 3) := by decide +kernel
theorem dX11_board_45 : decode cX11_board 45 = .ok (.ireturn, 1) := by decide +kernel
theorem dX11_whyNoPit_0 : decode cX11_whyNoPit 0 = .ok (.iload_n 1, 1) := by decide +kernel
theorem dX11_whyNoPit_1 : decode cX11_whyNoPit 1 = .ok (.ifCond .lt 14, 3) := by decide +kernel
theorem dX11_whyNoPit_4 : decode cX11_whyNoPit 4 = .ok (.iload_n 1, 1) := by decide +kernel
theorem dX11_whyNoPit_5 : decode cX11_whyNoPit 5 = .ok (.aload_n 0, 1) := by decide +kernel
theorem dX11_whyNoPit_6 : decode cX11_whyNoPit 6 = .ok (.getfield 12, 3) := by decide +kernel
theorem dX11_whyNoPit_9 : decode cX11_whyNoPit 9 = .ok (.getfield 336, 3) := by decide +kernel
theorem dX11_whyNoPit_12 : decode cX11_whyNoPit 12 = .ok (.if_icmp .lt 5, 3) := by decide +kernel
theorem dX11_whyNoPit_15 : decode cX11_whyNoPit 15 = .ok (.iconst 2, 1) := by decide +kernel
theorem dX11_whyNoPit_16 : decode cX11_whyNoPit 16 = .ok (.ireturn, 1) := by decide +kernel
theorem dX11_whyNoPit_17 : decode cX11_whyNoPit 17 = .ok (.iload_n 2, 1) := by decide +kernel
theorem dX11_whyNoPit_18 : decode cX11_whyNoPit 18 = .ok (.ifCond .lt 14, 3) := by decide +kernel
theorem dX11_whyNoPit_21 : decode cX11_whyNoPit 21 = .ok (.iload_n 2, 1) := by decide +kernel
theorem dX11_whyNoPit_22 : decode cX11_whyNoPit 22 = .ok (.aload_n 0, 1) := by decide +kernel
theorem dX11_whyNoPit_23 : decode cX11_whyNoPit 23 = .ok (.getfield 12, 3) := by decide +kernel
theorem dX11_whyNoPit_26 : decode cX11_whyNoPit 26 = .ok (.getfield 339, 3) := by decide +kernel
theorem dX11_whyNoPit_29 : decode cX11_whyNoPit 29 = .ok (.if_icmp .lt 5, 3) := by decide +kernel
theorem dX11_whyNoPit_32 : decode cX11_whyNoPit 32 = .ok (.iconst 3, 1) := by decide +kernel
theorem dX11_whyNoPit_33 : decode cX11_whyNoPit 33 = .ok (.ireturn, 1) := by decide +kernel
theorem dX11_whyNoPit_34 : decode cX11_whyNoPit 34 = .ok (.aload_n 0, 1) := by decide +kernel
theorem dX11_whyNoPit_35 : decode cX11_whyNoPit 35 = .ok (.getfield 12, 3) := by decide +kernel
theorem dX11_whyNoPit_38 : decode cX11_whyNoPit 38 = .ok (.getfield 330, 3) := by decide +kernel
theorem dX11_whyNoPit_41 : decode cX11_whyNoPit 41 = .ok (.aload_n 0, 1) := by decide +kernel
theorem dX11_whyNoPit_42 : decode cX11_whyNoPit 42 = .ok (.getfield 12, 3) := by decide +kernel
theorem dX11_whyNoPit_45 : decode cX11_whyNoPit 45 = .ok (.iload_n 1, 1) := by decide +kernel
theorem dX11_whyNoPit_46 : decode cX11_whyNoPit 46 = .ok (.iload_n 2, 1) := by decide +kernel
theorem dX11_whyNoPit_47 : decode cX11_whyNoPit 47 = .ok (.invokevirtual 105, 3) := by decide +kernel
theorem dX11_whyNoPit_50 : decode cX11_whyNoPit 50 = .ok (.baload, 1) := by decide +kernel
theorem dX11_whyNoPit_51 : decode cX11_whyNoPit 51 = .ok (.ifCond .eq 7, 3) := by decide +kernel
theorem dX11_whyNoPit_54 : decode cX11_whyNoPit 54 = .ok (.iconst 1, 1) := by decide +kernel
theorem dX11_whyNoPit_55 : decode cX11_whyNoPit 55 = .ok (.goto 4, 3) := by decide +kernel
theorem dX11_whyNoPit_58 : decode cX11_whyNoPit 58 = .ok (.iconst 0, 1) := by decide +kernel
theorem dX11_whyNoPit_59 : decode cX11_whyNoPit 59 = .ok (.ireturn, 1) := by decide +kernel
theorem dX11_lack_0 : decode cX11_lack 0 = .ok (.aload_n 0, 1) := by decide +kernel
theorem dX11_lack_1 : decode cX11_lack 1 = .ok (.iload_n 1, 1) := by decide +kernel
theorem dX11_lack_2 : decode cX11_lack 2 = .ok (.iload_n 2, 1) := by decide +kernel
theorem dX11_lack_3 : decode cX11_lack 3 = .ok (.invokevirtual 101, 3) := by decide +kernel
theorem dX11_lack_6 : decode cX11_lack 6 = .ok (.istore_n 3, 1) := by decide +kernel
theorem dX11_lack_7 : decode cX11_lack 7 = .ok (.iload_n 3, 1) := by decide +kernel
theorem dX11_lack_8 : decode cX11_lack 8 = .ok (.ifCond .eq 9, 3) := by decide +kernel
theorem dX11_lack_11 : decode cX11_lack 11 = .ok (.aload_n 0, 1) := by decide +kernel
theorem dX11_lack_12 : decode cX11_lack 12 = .ok (.iload_n 3, 1) := by decide +kernel
theorem dX11_lack_13 : decode cX11_lack 13 = .ok (.invokevirtual 91, 3) := by decide +kernel
theorem dX11_lack_16 : decode cX11_lack 16 = .ok (.ireturn, 1) := by decide +kernel
theorem dX11_lack_17 : decode cX11_lack 17 = .ok (.aload_n 0, 1) := by decide +kernel
theorem dX11_lack_18 : decode cX11_lack 18 = .ok (.getfield 12, 3) := by decide +kernel
theorem dX11_lack_21 : decode cX11_lack 21 = .ok (.iload_n 1, 1) := by decide +kernel
theorem dX11_lack_22 : decode cX11_lack 22 = .ok (.iload_n 2, 1) := by decide +kernel
theorem dX11_lack_23 : decode cX11_lack 23 = .ok (.invokevirtual 105, 3) := by decide +kernel
theorem dX11_lack_26 : decode cX11_lack 26 = .ok (.istore 4, 2) := by decide +kernel
theorem dX11_lack_28 : decode cX11_lack 28 = .ok (.aload_n 0, 1) := by decide +kernel
theorem dX11_lack_29 : decode cX11_lack 29 = .ok (.getfield 26, 3) := by decide +kernel
theorem dX11_lack_32 : decode cX11_lack 32 = .ok (.getfield 108, 3) := by decide +kernel
theorem dX11_lack_35 : decode cX11_lack 35 = .ok (.iload 4, 2) := by decide +kernel
theorem dX11_lack_37 : decode cX11_lack 37 = .ok (.iaload, 1) := by decide +kernel
theorem dX11_lack_38 : decode cX11_lack 38 = .ok (.ifCond .gt 14, 3) := by decide +kernel
theorem dX11_lack_41 : decode cX11_lack 41 = .ok (.aload_n 0, 1) := by decide +kernel
theorem dX11_lack_42 : decode cX11_lack 42 = .ok (.getfield 12, 3) := by decide +kernel
theorem dX11_lack_45 : decode cX11_lack 45 = .ok (.getfield 112, 3) := by decide +kernel
theorem dX11_lack_48 : decode cX11_lack 48 = .ok (.iconst 1, 1) := by decide +kernel
theorem dX11_lack_49 : decode cX11_lack 49 = .ok (.if_icmp .gt 10, 3) := by decide +kernel
theorem dX11_lack_52 : decode cX11_lack 52 = .ok (.aload_n 0, 1) := by decide +kernel
theorem dX11_lack_53 : decode cX11_lack 53 = .ok (.bipush 7, 2) := by decide +kernel
theorem dX11_lack_55 : decode cX11_lack 55 = .ok (.invokevirtual 91, 3) := by decide +kernel
theorem dX11_lack_58 : decode cX11_lack 58 = .ok (.ireturn, 1) := by decide +kernel
theorem dX11_lack_59 : decode cX11_lack 59 = .ok (.aload_n 0, 1) := by decide +kernel
theorem dX11_lack_60 : decode cX11_lack 60 = .ok (.getfield 12, 3) := by decide +kernel
theorem dX11_lack_63 : decode cX11_lack 63 = .ok (.iload 4, 2) := by decide +kernel
theorem dX11_lack_65 : decode cX11_lack 65 = .ok (.invokevirtual 115, 3) := by decide +kernel
theorem dX11_lack_68 : decode cX11_lack 68 = .ok (.aload_n 0, 1) := by decide +kernel
theorem dX11_lack_69 : decode cX11_lack 69 = .ok (.invokevirtual 119, 3) := by decide +kernel
theorem dX11_lack_72 : decode cX11_lack 72 = .ok (.aload_n 0, 1) := by decide +kernel
theorem dX11_lack_73 : decode cX11_lack 73 = .ok (.aload_n 0, 1) := by decide +kernel
theorem dX11_lack_74 : decode cX11_lack 74 = .ok (.getfield 12, 3) := by decide +kernel
theorem dX11_lack_77 : decode cX11_lack 77 = .ok (.getfield 112, 3) := by decide +kernel
theorem dX11_lack_80 : decode cX11_lack 80 = .ok (.invokevirtual 98, 3) := by decide +kernel
theorem dX11_lack_83 : decode cX11_lack 83 = .ok (.ireturn, 1) := by decide +kernel
theorem dX11_seeds_0 : decode cX11_seeds 0 = .ok (.aload_n 0, 1) := by decide +kernel
theorem dX11_seeds_1 : decode cX11_seeds 1 = .ok (.iload_n 1, 1) := by decide +kernel
theorem dX11_seeds_2 : decode cX11_seeds 2 = .ok (.iload_n 2, 1) := by decide +kernel
theorem dX11_seeds_3 : decode cX11_seeds 3 = .ok (.invokevirtual 101, 3) := by decide +kernel
theorem dX11_seeds_6 : decode cX11_seeds 6 = .ok (.istore 4, 2) := by decide +kernel
theorem dX11_seeds_8 : decode cX11_seeds 8 = .ok (.iload 4, 2) := by decide +kernel
theorem dX11_seeds_10 : decode cX11_seeds 10 = .ok (.ifCond .eq 10, 3) := by decide +kernel
theorem dX11_seeds_13 : decode cX11_seeds 13 = .ok (.aload_n 0, 1) := by decide +kernel
theorem dX11_seeds_14 : decode cX11_seeds 14 = .ok (.iload 4, 2) := by decide +kernel
theorem dX11_seeds_16 : decode cX11_seeds 16 = .ok (.invokevirtual 91, 3) := by decide +kernel
theorem dX11_seeds_19 : decode cX11_seeds 19 = .ok (.ireturn, 1) := by decide +kernel
theorem dX11_seeds_20 : decode cX11_seeds 20 = .ok (.iload_n 3, 1) := by decide +kernel
theorem dX11_seeds_21 : decode cX11_seeds 21 = .ok (.ifCond .lt 9, 3) := by decide +kernel
theorem dX11_seeds_24 : decode cX11_seeds 24 = .ok (.iload_n 3, 1) := by decide +kernel
theorem dX11_seeds_25 : decode cX11_seeds 25 = .ok (.bipush 60, 2) := by decide +kernel
theorem dX11_seeds_27 : decode cX11_seeds 27 = .ok (.if_icmp .le 10, 3) := by decide +kernel
theorem dX11_seeds_30 : decode cX11_seeds 30 = .ok (.aload_n 0, 1) := by decide +kernel
theorem dX11_seeds_31 : decode cX11_seeds 31 = .ok (.bipush 7, 2) := by decide +kernel
theorem dX11_seeds_33 : decode cX11_seeds 33 = .ok (.invokevirtual 91, 3) := by decide +kernel
theorem dX11_seeds_36 : decode cX11_seeds 36 = .ok (.ireturn, 1) := by decide +kernel
theorem dX11_seeds_37 : decode cX11_seeds 37 = .ok (.aload_n 0, 1) := by decide +kernel
theorem dX11_seeds_38 : decode cX11_seeds 38 = .ok (.getfield 26, 3) := by decide +kernel
theorem dX11_seeds_41 : decode cX11_seeds 41 = .ok (.getfield 108, 3) := by decide +kernel
theorem dX11_seeds_44 : decode cX11_seeds 44 = .ok (.aload_n 0, 1) := by decide +kernel
theorem dX11_seeds_45 : decode cX11_seeds 45 = .ok (.getfield 12, 3) := by decide +kernel
theorem dX11_seeds_48 : decode cX11_seeds 48 = .ok (.iload_n 1, 1) := by decide +kernel
theorem dX11_seeds_49 : decode cX11_seeds 49 = .ok (.iload_n 2, 1) := by decide +kernel
theorem dX11_seeds_50 : decode cX11_seeds 50 = .ok (.invokevirtual 105, 3) := by decide +kernel
theorem dX11_seeds_53 : decode cX11_seeds 53 = .ok (.iload_n 3, 1) := by decide +kernel
theorem dX11_seeds_54 : decode cX11_seeds 54 = .ok (.iastore, 1) := by decide +kernel
theorem dX11_seeds_55 : decode cX11_seeds 55 = .ok (.aload_n 0, 1) := by decide +kernel
theorem dX11_seeds_56 : decode cX11_seeds 56 = .ok (.getfield 51, 3) := by decide +kernel
theorem dX11_seeds_59 : decode cX11_seeds 59 = .ok (.invokevirtual 122, 3) := by decide +kernel
theorem dX11_seeds_62 : decode cX11_seeds 62 = .ok (.aload_n 0, 1) := by decide +kernel
theorem dX11_seeds_63 : decode cX11_seeds 63 = .ok (.aload_n 0, 1) := by decide +kernel
theorem dX11_seeds_64 : decode cX11_seeds 64 = .ok (.getfield 12, 3) := by decide +kernel
theorem dX11_seeds_67 : decode cX11_seeds 67 = .ok (.aload_n 0, 1) := by decide +kernel
theorem dX11_seeds_68 : decode cX11_seeds 68 = .ok (.getfield 26, 3) := by decide +kernel
theorem dX11_seeds_71 : decode cX11_seeds 71 = .ok (.getfield 108, 3) := by decide +kernel
theorem dX11_seeds_74 : decode cX11_seeds 74 = .ok (.invokevirtual 125, 3) := by decide +kernel
theorem dX11_seeds_77 : decode cX11_seeds 77 = .ok (.invokevirtual 98, 3) := by decide +kernel
theorem dX11_seeds_80 : decode cX11_seeds 80 = .ok (.ireturn, 1) := by decide +kernel
theorem dX11_isSide_0 : decode cX11_isSide 0 = .ok (.iload_n 0, 1) := by decide +kernel
theorem dX11_isSide_1 : decode cX11_isSide 1 = .ok (.ifCond .eq 8, 3) := by decide +kernel
theorem dX11_isSide_4 : decode cX11_isSide 4 = .ok (.iload_n 0, 1) := by decide +kernel
theorem dX11_isSide_5 : decode cX11_isSide 5 = .ok (.iconst 1, 1) := by decide +kernel
theorem dX11_isSide_6 : decode cX11_isSide 6 = .ok (.if_icmp .ne 7, 3) := by decide +kernel
theorem dX11_isSide_9 : decode cX11_isSide 9 = .ok (.iconst 1, 1) := by decide +kernel
theorem dX11_isSide_10 : decode cX11_isSide 10 = .ok (.goto 4, 3) := by decide +kernel
theorem dX11_isSide_13 : decode cX11_isSide 13 = .ok (.iconst 0, 1) := by decide +kernel
theorem dX11_isSide_14 : decode cX11_isSide 14 = .ok (.ireturn, 1) := by decide +kernel
theorem dX11_store_0 : decode cX11_store 0 = .ok (.iload_n 1, 1) := by decide +kernel
theorem dX11_store_1 : decode cX11_store 1 = .ok (.invokestatic 129, 3) := by decide +kernel
theorem dX11_store_4 : decode cX11_store 4 = .ok (.ifCond .ne 9, 3) := by decide +kernel
theorem dX11_store_7 : decode cX11_store 7 = .ok (.aload_n 0, 1) := by decide +kernel
theorem dX11_store_8 : decode cX11_store 8 = .ok (.iconst 3, 1) := by decide +kernel
theorem dX11_store_9 : decode cX11_store 9 = .ok (.invokevirtual 91, 3) := by decide +kernel
theorem dX11_store_12 : decode cX11_store 12 = .ok (.ireturn, 1) := by decide +kernel
theorem dX11_store_13 : decode cX11_store 13 = .ok (.iload_n 2, 1) := by decide +kernel
theorem dX11_store_14 : decode cX11_store 14 = .ok (.ifCond .lt 10, 3) := by decide +kernel
theorem dX11_store_17 : decode cX11_store 17 = .ok (.iload_n 2, 1) := by decide +kernel
theorem dX11_store_18 : decode cX11_store 18 = .ok (.sipush 1000, 3) := by decide +kernel
theorem dX11_store_21 : decode cX11_store 21 = .ok (.if_icmp .le 10, 3) := by decide +kernel
theorem dX11_store_24 : decode cX11_store 24 = .ok (.aload_n 0, 1) := by decide +kernel
theorem dX11_store_25 : decode cX11_store 25 = .ok (.bipush 7, 2) := by decide +kernel
theorem dX11_store_27 : decode cX11_store 27 = .ok (.invokevirtual 91, 3) := by decide +kernel
theorem dX11_store_30 : decode cX11_store 30 = .ok (.ireturn, 1) := by decide +kernel
theorem dX11_store_31 : decode cX11_store 31 = .ok (.aload_n 0, 1) := by decide +kernel
theorem dX11_store_32 : decode cX11_store 32 = .ok (.getfield 26, 3) := by decide +kernel
theorem dX11_store_35 : decode cX11_store 35 = .ok (.getfield 133, 3) := by decide +kernel
theorem dX11_store_38 : decode cX11_store 38 = .ok (.iload_n 1, 1) := by decide +kernel
theorem dX11_store_39 : decode cX11_store 39 = .ok (.iload_n 2, 1) := by decide +kernel
theorem dX11_store_40 : decode cX11_store 40 = .ok (.iastore, 1) := by decide +kernel
theorem dX11_store_41 : decode cX11_store 41 = .ok (.aload_n 0, 1) := by decide +kernel
theorem dX11_store_42 : decode cX11_store 42 = .ok (.getfield 51, 3) := by decide +kernel
theorem dX11_store_45 : decode cX11_store 45 = .ok (.invokevirtual 122, 3) := by decide +kernel
theorem dX11_store_48 : decode cX11_store 48 = .ok (.aload_n 0, 1) := by decide +kernel
theorem dX11_store_49 : decode cX11_store 49 = .ok (.iload_n 2, 1) := by decide +kernel
theorem dX11_store_50 : decode cX11_store 50 = .ok (.invokevirtual 98, 3) := by decide +kernel
theorem dX11_store_53 : decode cX11_store 53 = .ok (.ireturn, 1) := by decide +kernel
theorem dX11_side_0 : decode cX11_side 0 = .ok (.iload_n 1, 1) := by decide +kernel
theorem dX11_side_1 : decode cX11_side 1 = .ok (.invokestatic 129, 3) := by decide +kernel
theorem dX11_side_4 : decode cX11_side 4 = .ok (.ifCond .ne 9, 3) := by decide +kernel
theorem dX11_side_7 : decode cX11_side 7 = .ok (.aload_n 0, 1) := by decide +kernel
theorem dX11_side_8 : decode cX11_side 8 = .ok (.iconst 3, 1) := by decide +kernel
theorem dX11_side_9 : decode cX11_side 9 = .ok (.invokevirtual 91, 3) := by decide +kernel
theorem dX11_side_12 : decode cX11_side 12 = .ok (.ireturn, 1) := by decide +kernel
theorem dX11_side_13 : decode cX11_side 13 = .ok (.aload_n 0, 1) := by decide +kernel
theorem dX11_side_14 : decode cX11_side 14 = .ok (.getfield 26, 3) := by decide +kernel
theorem dX11_side_17 : decode cX11_side 17 = .ok (.iload_n 1, 1) := by decide +kernel
theorem dX11_side_18 : decode cX11_side 18 = .ok (.putfield 136, 3) := by decide +kernel
theorem dX11_side_21 : decode cX11_side 21 = .ok (.aload_n 0, 1) := by decide +kernel
theorem dX11_side_22 : decode cX11_side 22 = .ok (.getfield 51, 3) := by decide +kernel
theorem dX11_side_25 : decode cX11_side 25 = .ok (.invokevirtual 122, 3) := by decide +kernel
theorem dX11_side_28 : decode cX11_side 28 = .ok (.aload_n 0, 1) := by decide +kernel
theorem dX11_side_29 : decode cX11_side 29 = .ok (.iload_n 1, 1) := by decide +kernel
theorem dX11_side_30 : decode cX11_side 30 = .ok (.invokevirtual 98, 3) := by decide +kernel
theorem dX11_side_33 : decode cX11_side 33 = .ok (.ireturn, 1) := by decide +kernel
theorem dX11_rule_0 : decode cX11_rule 0 = .ok (.iload_n 1, 1) := by decide +kernel
theorem dX11_rule_1 : decode cX11_rule 1 = .ok (.ifCond .lt 8, 3) := by decide +kernel
theorem dX11_rule_4 : decode cX11_rule 4 = .ok (.iload_n 1, 1) := by decide +kernel
theorem dX11_rule_5 : decode cX11_rule 5 = .ok (.iconst 3, 1) := by decide +kernel
theorem dX11_rule_6 : decode cX11_rule 6 = .ok (.if_icmp .le 10, 3) := by decide +kernel
theorem dX11_rule_9 : decode cX11_rule 9 = .ok (.aload_n 0, 1) := by decide +kernel
theorem dX11_rule_10 : decode cX11_rule 10 = .ok (.bipush 7, 2) := by decide +kernel
theorem dX11_rule_12 : decode cX11_rule 12 = .ok (.invokevirtual 91, 3) := by decide +kernel
theorem dX11_rule_15 : decode cX11_rule 15 = .ok (.ireturn, 1) := by decide +kernel
theorem dX11_rule_16 : decode cX11_rule 16 = .ok (.aload_n 0, 1) := by decide +kernel
theorem dX11_rule_17 : decode cX11_rule 17 = .ok (.getfield 19, 3) := by decide +kernel
theorem dX11_rule_20 : decode cX11_rule 20 = .ok (.iload_n 1, 1) := by decide +kernel
theorem dX11_rule_21 : decode cX11_rule 21 = .ok (.invokevirtual 139, 3) := by decide +kernel
theorem dX11_rule_24 : decode cX11_rule 24 = .ok (.aload_n 0, 1) := by decide +kernel
theorem dX11_rule_25 : decode cX11_rule 25 = .ok (.invokevirtual 119, 3) := by decide +kernel
theorem dX11_rule_28 : decode cX11_rule 28 = .ok (.aload_n 0, 1) := by decide +kernel
theorem dX11_rule_29 : decode cX11_rule 29 = .ok (.iload_n 1, 1) := by decide +kernel
theorem dX11_rule_30 : decode cX11_rule 30 = .ok (.invokevirtual 98, 3) := by decide +kernel
theorem dX11_rule_33 : decode cX11_rule 33 = .ok (.ireturn, 1) := by decide +kernel
theorem dX11_rounds_0 : decode cX11_rounds 0 = .ok (.iload_n 1, 1) := by decide +kernel
theorem dX11_rounds_1 : decode cX11_rounds 1 = .ok (.iconst 1, 1) := by decide +kernel
theorem dX11_rounds_2 : decode cX11_rounds 2 = .ok (.if_icmp .lt 9, 3) := by decide +kernel
theorem dX11_rounds_5 : decode cX11_rounds 5 = .ok (.iload_n 1, 1) := by decide +kernel
theorem dX11_rounds_6 : decode cX11_rounds 6 = .ok (.bipush 50, 2) := by decide +kernel
theorem dX11_rounds_8 : decode cX11_rounds 8 = .ok (.if_icmp .le 10, 3) := by decide +kernel
theorem dX11_rounds_11 : decode cX11_rounds 11 = .ok (.aload_n 0, 1) := by decide +kernel
theorem dX11_rounds_12 : decode cX11_rounds 12 = .ok (.bipush 7, 2) := by decide +kernel
theorem dX11_rounds_14 : decode cX11_rounds 14 = .ok (.invokevirtual 91, 3) := by decide +kernel
theorem dX11_rounds_17 : decode cX11_rounds 17 = .ok (.ireturn, 1) := by decide +kernel
theorem dX11_rounds_18 : decode cX11_rounds 18 = .ok (.aload_n 0, 1) := by decide +kernel
theorem dX11_rounds_19 : decode cX11_rounds 19 = .ok (.getfield 19, 3) := by decide +kernel
theorem dX11_rounds_22 : decode cX11_rounds 22 = .ok (.getfield 142, 3) := by decide +kernel
theorem dX11_rounds_25 : decode cX11_rounds 25 = .ok (.iconst 1, 1) := by decide +kernel
theorem dX11_rounds_26 : decode cX11_rounds 26 = .ok (.if_icmp .eq 9, 3) := by decide +kernel
theorem dX11_rounds_29 : decode cX11_rounds 29 = .ok (.aload_n 0, 1) := by decide +kernel
theorem dX11_rounds_30 : decode cX11_rounds 30 = .ok (.iconst 4, 1) := by decide +kernel
theorem dX11_rounds_31 : decode cX11_rounds 31 = .ok (.invokevirtual 91, 3) := by decide +kernel
theorem dX11_rounds_34 : decode cX11_rounds 34 = .ok (.ireturn, 1) := by decide +kernel
theorem dX11_rounds_35 : decode cX11_rounds 35 = .ok (.aload_n 0, 1) := by decide +kernel
theorem dX11_rounds_36 : decode cX11_rounds 36 = .ok (.getfield 19, 3) := by decide +kernel
theorem dX11_rounds_39 : decode cX11_rounds 39 = .ok (.iload_n 1, 1) := by decide +kernel
theorem dX11_rounds_40 : decode cX11_rounds 40 = .ok (.putfield 145, 3) := by decide +kernel
theorem dX11_rounds_43 : decode cX11_rounds 43 = .ok (.aload_n 0, 1) := by decide +kernel
theorem dX11_rounds_44 : decode cX11_rounds 44 = .ok (.invokevirtual 119, 3) := by decide +kernel
theorem dX11_rounds_47 : decode cX11_rounds 47 = .ok (.aload_n 0, 1) := by decide +kernel
theorem dX11_rounds_48 : decode cX11_rounds 48 = .ok (.iload_n 1, 1) := by decide +kernel
theorem dX11_rounds_49 : decode cX11_rounds 49 = .ok (.invokevirtual 98, 3) := by decide +kernel
theorem dX11_rounds_52 : decode cX11_rounds 52 = .ok (.ireturn, 1) := by decide +kernel
theorem dX11_takes_0 : decode cX11_takes 0 = .ok (.iload_n 1, 1) := by decide +kernel
theorem dX11_takes_1 : decode cX11_takes 1 = .ok (.iconst 1, 1) := by decide +kernel
theorem dX11_takes_2 : decode cX11_takes 2 = .ok (.if_icmp .lt 14, 3) := by decide +kernel
theorem dX11_takes_5 : decode cX11_takes 5 = .ok (.iload_n 1, 1) := by decide +kernel
theorem dX11_takes_6 : decode cX11_takes 6 = .ok (.iload_n 2, 1) := by decide +kernel
theorem dX11_takes_7 : decode cX11_takes 7 = .ok (.if_icmp .gt 9, 3) := by decide +kernel
theorem dX11_takes_10 : decode cX11_takes 10 = .ok (.iload_n 2, 1) := by decide +kernel
theorem dX11_takes_11 : decode cX11_takes 11 = .ok (.bipush 20, 2) := by decide +kernel
theorem dX11_takes_13 : decode cX11_takes 13 = .ok (.if_icmp .le 10, 3) := by decide +kernel
theorem dX11_takes_16 : decode cX11_takes 16 = .ok (.aload_n 0, 1) := by decide +kernel
theorem dX11_takes_17 : decode cX11_takes 17 = .ok (.bipush 7, 2) := by decide +kernel
theorem dX11_takes_19 : decode cX11_takes 19 = .ok (.invokevirtual 91, 3) := by decide +kernel
theorem dX11_takes_22 : decode cX11_takes 22 = .ok (.ireturn, 1) := by decide +kernel
theorem dX11_takes_23 : decode cX11_takes 23 = .ok (.aload_n 0, 1) := by decide +kernel
theorem dX11_takes_24 : decode cX11_takes 24 = .ok (.getfield 19, 3) := by decide +kernel
theorem dX11_takes_27 : decode cX11_takes 27 = .ok (.getfield 142, 3) := by decide +kernel
theorem dX11_takes_30 : decode cX11_takes 30 = .ok (.iconst 2, 1) := by decide +kernel
theorem dX11_takes_31 : decode cX11_takes 31 = .ok (.if_icmp .eq 9, 3) := by decide +kernel
theorem dX11_takes_34 : decode cX11_takes 34 = .ok (.aload_n 0, 1) := by decide +kernel
theorem dX11_takes_35 : decode cX11_takes 35 = .ok (.iconst 4, 1) := by decide +kernel
theorem dX11_takes_36 : decode cX11_takes 36 = .ok (.invokevirtual 91, 3) := by decide +kernel
theorem dX11_takes_39 : decode cX11_takes 39 = .ok (.ireturn, 1) := by decide +kernel
theorem dX11_takes_40 : decode cX11_takes 40 = .ok (.aload_n 0, 1) := by decide +kernel
theorem dX11_takes_41 : decode cX11_takes 41 = .ok (.getfield 19, 3) := by decide +kernel
theorem dX11_takes_44 : decode cX11_takes 44 = .ok (.iload_n 1, 1) := by decide +kernel
theorem dX11_takes_45 : decode cX11_takes 45 = .ok (.putfield 148, 3) := by decide +kernel
theorem dX11_takes_48 : decode cX11_takes 48 = .ok (.aload_n 0, 1) := by decide +kernel
theorem dX11_takes_49 : decode cX11_takes 49 = .ok (.getfield 19, 3) := by decide +kernel
theorem dX11_takes_52 : decode cX11_takes 52 = .ok (.iload_n 2, 1) := by decide +kernel
theorem dX11_takes_53 : decode cX11_takes 53 = .ok (.putfield 151, 3) := by decide +kernel
theorem dX11_takes_56 : decode cX11_takes 56 = .ok (.aload_n 0, 1) := by decide +kernel
theorem dX11_takes_57 : decode cX11_takes 57 = .ok (.invokevirtual 119, 3) := by decide +kernel
theorem dX11_takes_60 : decode cX11_takes 60 = .ok (.aload_n 0, 1) := by decide +kernel
theorem dX11_takes_61 : decode cX11_takes 61 = .ok (.iload_n 2, 1) := by decide +kernel
theorem dX11_takes_62 : decode cX11_takes 62 = .ok (.invokevirtual 98, 3) := by decide +kernel
theorem dX11_takes_65 : decode cX11_takes 65 = .ok (.ireturn, 1) := by decide +kernel
theorem dX11_least_0 : decode cX11_least 0 = .ok (.iload_n 1, 1) := by decide +kernel
theorem dX11_least_1 : decode cX11_least 1 = .ok (.iconst 1, 1) := by decide +kernel
theorem dX11_least_2 : decode cX11_least 2 = .ok (.if_icmp .lt 8, 3) := by decide +kernel
theorem dX11_least_5 : decode cX11_least 5 = .ok (.iload_n 1, 1) := by decide +kernel
theorem dX11_least_6 : decode cX11_least 6 = .ok (.iconst 4, 1) := by decide +kernel
theorem dX11_least_7 : decode cX11_least 7 = .ok (.if_icmp .le 10, 3) := by decide +kernel
theorem dX11_least_10 : decode cX11_least 10 = .ok (.aload_n 0, 1) := by decide +kernel
theorem dX11_least_11 : decode cX11_least 11 = .ok (.bipush 7, 2) := by decide +kernel
theorem dX11_least_13 : decode cX11_least 13 = .ok (.invokevirtual 91, 3) := by decide +kernel
theorem dX11_least_16 : decode cX11_least 16 = .ok (.ireturn, 1) := by decide +kernel
theorem dX11_least_17 : decode cX11_least 17 = .ok (.aload_n 0, 1) := by decide +kernel
theorem dX11_least_18 : decode cX11_least 18 = .ok (.getfield 19, 3) := by decide +kernel
theorem dX11_least_21 : decode cX11_least 21 = .ok (.iload_n 1, 1) := by decide +kernel
theorem dX11_least_22 : decode cX11_least 22 = .ok (.putfield 154, 3) := by decide +kernel
theorem dX11_least_25 : decode cX11_least 25 = .ok (.aload_n 0, 1) := by decide +kernel
theorem dX11_least_26 : decode cX11_least 26 = .ok (.invokevirtual 119, 3) := by decide +kernel
theorem dX11_least_29 : decode cX11_least 29 = .ok (.aload_n 0, 1) := by decide +kernel
theorem dX11_least_30 : decode cX11_least 30 = .ok (.iload_n 1, 1) := by decide +kernel
theorem dX11_least_31 : decode cX11_least 31 = .ok (.invokevirtual 98, 3) := by decide +kernel
theorem dX11_least_34 : decode cX11_least 34 = .ok (.ireturn, 1) := by decide +kernel
theorem dX11_feeding_0 : decode cX11_feeding 0 = .ok (.iload_n 1, 1) := by decide +kernel
theorem dX11_feeding_1 : decode cX11_feeding 1 = .ok (.ifCond .lt 8, 3) := by decide +kernel
theorem dX11_feeding_4 : decode cX11_feeding 4 = .ok (.iload_n 1, 1) := by decide +kernel
theorem dX11_feeding_5 : decode cX11_feeding 5 = .ok (.iconst 1, 1) := by decide +kernel
theorem dX11_feeding_6 : decode cX11_feeding 6 = .ok (.if_icmp .le 10, 3) := by decide +kernel
theorem dX11_feeding_9 : decode cX11_feeding 9 = .ok (.aload_n 0, 1) := by decide +kernel
theorem dX11_feeding_10 : decode cX11_feeding 10 = .ok (.bipush 7, 2) := by decide +kernel
theorem dX11_feeding_12 : decode cX11_feeding 12 = .ok (.invokevirtual 91, 3) := by decide +kernel
theorem dX11_feeding_15 : decode cX11_feeding 15 = .ok (.ireturn, 1) := by decide +kernel
theorem dX11_feeding_16 : decode cX11_feeding 16 = .ok (.aload_n 0, 1) := by decide +kernel
theorem dX11_feeding_17 : decode cX11_feeding 17 = .ok (.getfield 19, 3) := by decide +kernel
theorem dX11_feeding_20 : decode cX11_feeding 20 = .ok (.iload_n 1, 1) := by decide +kernel
theorem dX11_feeding_21 : decode cX11_feeding 21 = .ok (.iconst 1, 1) := by decide +kernel
theorem dX11_feeding_22 : decode cX11_feeding 22 = .ok (.if_icmp .ne 7, 3) := by decide +kernel
theorem dX11_feeding_25 : decode cX11_feeding 25 = .ok (.iconst 1, 1) := by decide +kernel
theorem dX11_feeding_26 : decode cX11_feeding 26 = .ok (.goto 4, 3) := by decide +kernel
theorem dX11_feeding_29 : decode cX11_feeding 29 = .ok (.iconst 0, 1) := by decide +kernel
theorem dX11_feeding_30 : decode cX11_feeding 30 = .ok (.putfield 157, 3) := by decide +kernel
theorem dX11_feeding_33 : decode cX11_feeding 33 = .ok (.aload_n 0, 1) := by decide +kernel
theorem dX11_feeding_34 : decode cX11_feeding 34 = .ok (.invokevirtual 119, 3) := by decide +kernel
theorem dX11_feeding_37 : decode cX11_feeding 37 = .ok (.aload_n 0, 1) := by decide +kernel
theorem dX11_feeding_38 : decode cX11_feeding 38 = .ok (.iload_n 1, 1) := by decide +kernel
theorem dX11_feeding_39 : decode cX11_feeding 39 = .ok (.invokevirtual 98, 3) := by decide +kernel
theorem dX11_feeding_42 : decode cX11_feeding 42 = .ok (.ireturn, 1) := by decide +kernel
theorem dX11_ends_0 : decode cX11_ends 0 = .ok (.iload_n 1, 1) := by decide +kernel
theorem dX11_ends_1 : decode cX11_ends 1 = .ok (.ifCond .lt 8, 3) := by decide +kernel
theorem dX11_ends_4 : decode cX11_ends 4 = .ok (.iload_n 1, 1) := by decide +kernel
theorem dX11_ends_5 : decode cX11_ends 5 = .ok (.iconst 2, 1) := by decide +kernel
theorem dX11_ends_6 : decode cX11_ends 6 = .ok (.if_icmp .le 10, 3) := by decide +kernel
theorem dX11_ends_9 : decode cX11_ends 9 = .ok (.aload_n 0, 1) := by decide +kernel
theorem dX11_ends_10 : decode cX11_ends 10 = .ok (.bipush 7, 2) := by decide +kernel
theorem dX11_ends_12 : decode cX11_ends 12 = .ok (.invokevirtual 91, 3) := by decide +kernel
theorem dX11_ends_15 : decode cX11_ends 15 = .ok (.ireturn, 1) := by decide +kernel
theorem dX11_ends_16 : decode cX11_ends 16 = .ok (.aload_n 0, 1) := by decide +kernel
theorem dX11_ends_17 : decode cX11_ends 17 = .ok (.getfield 19, 3) := by decide +kernel
theorem dX11_ends_20 : decode cX11_ends 20 = .ok (.iload_n 1, 1) := by decide +kernel
theorem dX11_ends_21 : decode cX11_ends 21 = .ok (.putfield 161, 3) := by decide +kernel
theorem dX11_ends_24 : decode cX11_ends 24 = .ok (.aload_n 0, 1) := by decide +kernel
theorem dX11_ends_25 : decode cX11_ends 25 = .ok (.invokevirtual 119, 3) := by decide +kernel
theorem dX11_ends_28 : decode cX11_ends 28 = .ok (.aload_n 0, 1) := by decide +kernel
theorem dX11_ends_29 : decode cX11_ends 29 = .ok (.iload_n 1, 1) := by decide +kernel
theorem dX11_ends_30 : decode cX11_ends 30 = .ok (.invokevirtual 98, 3) := by decide +kernel
theorem dX11_ends_33 : decode cX11_ends 33 = .ok (.ireturn, 1) := by decide +kernel
theorem dX11_makeMove_0 : decode cX11_makeMove 0 = .ok (.aload_n 0, 1) := by decide +kernel
theorem dX11_makeMove_1 : decode cX11_makeMove 1 = .ok (.getfield 51, 3) := by decide +kernel
theorem dX11_makeMove_4 : decode cX11_makeMove 4 = .ok (.aload_n 0, 1) := by decide +kernel
theorem dX11_makeMove_5 : decode cX11_makeMove 5 = .ok (.getfield 26, 3) := by decide +kernel
theorem dX11_makeMove_8 : decode cX11_makeMove 8 = .ok (.iload_n 1, 1) := by decide +kernel
theorem dX11_makeMove_9 : decode cX11_makeMove 9 = .ok (.invokevirtual 356, 3) := by decide +kernel
theorem dX11_makeMove_12 : decode cX11_makeMove 12 = .ok (.aload_n 0, 1) := by decide +kernel
theorem dX11_makeMove_13 : decode cX11_makeMove 13 = .ok (.getfield 26, 3) := by decide +kernel
theorem dX11_makeMove_16 : decode cX11_makeMove 16 = .ok (.aload_n 0, 1) := by decide +kernel
theorem dX11_makeMove_17 : decode cX11_makeMove 17 = .ok (.getfield 35, 3) := by decide +kernel
theorem dX11_makeMove_20 : decode cX11_makeMove 20 = .ok (.getfield 199, 3) := by decide +kernel
theorem dX11_makeMove_23 : decode cX11_makeMove 23 = .ok (.iload_n 1, 1) := by decide +kernel
theorem dX11_makeMove_24 : decode cX11_makeMove 24 = .ok (.aaload, 1) := by decide +kernel
theorem dX11_makeMove_25 : decode cX11_makeMove 25 = .ok (.aload_n 0, 1) := by decide +kernel
theorem dX11_makeMove_26 : decode cX11_makeMove 26 = .ok (.getfield 35, 3) := by decide +kernel
theorem dX11_makeMove_29 : decode cX11_makeMove 29 = .ok (.getfield 181, 3) := by decide +kernel
theorem dX11_makeMove_32 : decode cX11_makeMove 32 = .ok (.iload_n 1, 1) := by decide +kernel
theorem dX11_makeMove_33 : decode cX11_makeMove 33 = .ok (.iaload, 1) := by decide +kernel
theorem dX11_makeMove_34 : decode cX11_makeMove 34 = .ok (.invokevirtual 203, 3) := by decide +kernel
theorem dX11_makeMove_37 : decode cX11_makeMove 37 = .ok (.return_, 1) := by decide +kernel
theorem dX11_move_0 : decode cX11_move 0 = .ok (.aload_n 0, 1) := by decide +kernel
theorem dX11_move_1 : decode cX11_move 1 = .ok (.iload_n 1, 1) := by decide +kernel
theorem dX11_move_2 : decode cX11_move 2 = .ok (.iload_n 2, 1) := by decide +kernel
theorem dX11_move_3 : decode cX11_move 3 = .ok (.invokevirtual 101, 3) := by decide +kernel
theorem dX11_move_6 : decode cX11_move 6 = .ok (.istore_n 3, 1) := by decide +kernel
theorem dX11_move_7 : decode cX11_move 7 = .ok (.iload_n 3, 1) := by decide +kernel
theorem dX11_move_8 : decode cX11_move 8 = .ok (.ifCond .eq 9, 3) := by decide +kernel
theorem dX11_move_11 : decode cX11_move 11 = .ok (.aload_n 0, 1) := by decide +kernel
theorem dX11_move_12 : decode cX11_move 12 = .ok (.iload_n 3, 1) := by decide +kernel
theorem dX11_move_13 : decode cX11_move 13 = .ok (.invokevirtual 91, 3) := by decide +kernel
theorem dX11_move_16 : decode cX11_move 16 = .ok (.ireturn, 1) := by decide +kernel
theorem dX11_move_17 : decode cX11_move 17 = .ok (.aload_n 0, 1) := by decide +kernel
theorem dX11_move_18 : decode cX11_move 18 = .ok (.getfield 51, 3) := by decide +kernel
theorem dX11_move_21 : decode cX11_move 21 = .ok (.getfield 164, 3) := by decide +kernel
theorem dX11_move_24 : decode cX11_move 24 = .ok (.sipush 1000, 3) := by decide +kernel
theorem dX11_move_27 : decode cX11_move 27 = .ok (.if_icmp .lt 10, 3) := by decide +kernel
theorem dX11_move_30 : decode cX11_move 30 = .ok (.aload_n 0, 1) := by decide +kernel
theorem dX11_move_31 : decode cX11_move 31 = .ok (.bipush 10, 2) := by decide +kernel
theorem dX11_move_33 : decode cX11_move 33 = .ok (.invokevirtual 91, 3) := by decide +kernel
theorem dX11_move_36 : decode cX11_move 36 = .ok (.ireturn, 1) := by decide +kernel
theorem dX11_move_37 : decode cX11_move 37 = .ok (.aload_n 0, 1) := by decide +kernel
theorem dX11_move_38 : decode cX11_move 38 = .ok (.getfield 12, 3) := by decide +kernel
theorem dX11_move_41 : decode cX11_move 41 = .ok (.iload_n 1, 1) := by decide +kernel
theorem dX11_move_42 : decode cX11_move 42 = .ok (.iload_n 2, 1) := by decide +kernel
theorem dX11_move_43 : decode cX11_move 43 = .ok (.invokevirtual 105, 3) := by decide +kernel
theorem dX11_move_46 : decode cX11_move 46 = .ok (.istore 4, 2) := by decide +kernel
theorem dX11_move_48 : decode cX11_move 48 = .ok (.aload_n 0, 1) := by decide +kernel
theorem dX11_move_49 : decode cX11_move 49 = .ok (.getfield 35, 3) := by decide +kernel
theorem dX11_move_52 : decode cX11_move 52 = .ok (.aload_n 0, 1) := by decide +kernel
theorem dX11_move_53 : decode cX11_move 53 = .ok (.getfield 26, 3) := by decide +kernel
theorem dX11_move_56 : decode cX11_move 56 = .ok (.getfield 108, 3) := by decide +kernel
theorem dX11_move_59 : decode cX11_move 59 = .ok (.aload_n 0, 1) := by decide +kernel
theorem dX11_move_60 : decode cX11_move 60 = .ok (.getfield 26, 3) := by decide +kernel
theorem dX11_move_63 : decode cX11_move 63 = .ok (.getfield 136, 3) := by decide +kernel
theorem dX11_move_66 : decode cX11_move 66 = .ok (.invokevirtual 167, 3) := by decide +kernel
theorem dX11_move_69 : decode cX11_move 69 = .ok (.pop, 1) := by decide +kernel
theorem dX11_move_70 : decode cX11_move 70 = .ok (.aload_n 0, 1) := by decide +kernel
theorem dX11_move_71 : decode cX11_move 71 = .ok (.getfield 35, 3) := by decide +kernel
theorem dX11_move_74 : decode cX11_move 74 = .ok (.iload 4, 2) := by decide +kernel
theorem dX11_move_76 : decode cX11_move 76 = .ok (.invokevirtual 171, 3) := by decide +kernel
theorem dX11_move_79 : decode cX11_move 79 = .ok (.ifCond .eq 10, 3) := by decide +kernel
theorem dX11_move_82 : decode cX11_move 82 = .ok (.aload_n 0, 1) := by decide +kernel
theorem dX11_move_83 : decode cX11_move 83 = .ok (.bipush 6, 2) := by decide +kernel
theorem dX11_move_85 : decode cX11_move 85 = .ok (.invokevirtual 91, 3) := by decide +kernel
theorem dX11_move_88 : decode cX11_move 88 = .ok (.ireturn, 1) := by decide +kernel
theorem dX11_move_89 : decode cX11_move 89 = .ok (.aload_n 0, 1) := by decide +kernel
theorem dX11_move_90 : decode cX11_move 90 = .ok (.getfield 35, 3) := by decide +kernel
theorem dX11_move_93 : decode cX11_move 93 = .ok (.getfield 174, 3) := by decide +kernel
theorem dX11_move_96 : decode cX11_move 96 = .ok (.iload 4, 2) := by decide +kernel
theorem dX11_move_98 : decode cX11_move 98 = .ok (.baload, 1) := by decide +kernel
theorem dX11_move_99 : decode cX11_move 99 = .ok (.ifCond .ne 9, 3) := by decide +kernel
theorem dX11_move_102 : decode cX11_move 102 = .ok (.aload_n 0, 1) := by decide +kernel
theorem dX11_move_103 : decode cX11_move 103 = .ok (.iconst 5, 1) := by decide +kernel
theorem dX11_move_104 : decode cX11_move 104 = .ok (.invokevirtual 91, 3) := by decide +kernel
theorem dX11_move_107 : decode cX11_move 107 = .ok (.ireturn, 1) := by decide +kernel
theorem dX11_move_108 : decode cX11_move 108 = .ok (.aload_n 0, 1) := by decide +kernel
theorem dX11_move_109 : decode cX11_move 109 = .ok (.iload 4, 2) := by decide +kernel
theorem dX11_move_111 : decode cX11_move 111 = .ok (.invokevirtual 178, 3) := by decide +kernel
theorem dX11_move_114 : decode cX11_move 114 = .ok (.aload_n 0, 1) := by decide +kernel
theorem dX11_move_115 : decode cX11_move 115 = .ok (.aload_n 0, 1) := by decide +kernel
theorem dX11_move_116 : decode cX11_move 116 = .ok (.getfield 35, 3) := by decide +kernel
theorem dX11_move_119 : decode cX11_move 119 = .ok (.getfield 181, 3) := by decide +kernel
theorem dX11_move_122 : decode cX11_move 122 = .ok (.iload 4, 2) := by decide +kernel
theorem dX11_move_124 : decode cX11_move 124 = .ok (.iaload, 1) := by decide +kernel
theorem dX11_move_125 : decode cX11_move 125 = .ok (.invokevirtual 98, 3) := by decide +kernel
theorem dX11_move_128 : decode cX11_move 128 = .ok (.ireturn, 1) := by decide +kernel
theorem dX11_undo_0 : decode cX11_undo 0 = .ok (.aload_n 0, 1) := by decide +kernel
theorem dX11_undo_1 : decode cX11_undo 1 = .ok (.getfield 51, 3) := by decide +kernel
theorem dX11_undo_4 : decode cX11_undo 4 = .ok (.getfield 164, 3) := by decide +kernel
theorem dX11_undo_7 : decode cX11_undo 7 = .ok (.iconst 1, 1) := by decide +kernel
theorem dX11_undo_8 : decode cX11_undo 8 = .ok (.if_icmp .ge 10, 3) := by decide +kernel
theorem dX11_undo_11 : decode cX11_undo 11 = .ok (.aload_n 0, 1) := by decide +kernel
theorem dX11_undo_12 : decode cX11_undo 12 = .ok (.bipush 8, 2) := by decide +kernel
theorem dX11_undo_14 : decode cX11_undo 14 = .ok (.invokevirtual 91, 3) := by decide +kernel
theorem dX11_undo_17 : decode cX11_undo 17 = .ok (.ireturn, 1) := by decide +kernel
theorem dX11_undo_18 : decode cX11_undo 18 = .ok (.aload_n 0, 1) := by decide +kernel
theorem dX11_undo_19 : decode cX11_undo 19 = .ok (.getfield 51, 3) := by decide +kernel
theorem dX11_undo_22 : decode cX11_undo 22 = .ok (.aload_n 0, 1) := by decide +kernel
theorem dX11_undo_23 : decode cX11_undo 23 = .ok (.getfield 26, 3) := by decide +kernel
theorem dX11_undo_26 : decode cX11_undo 26 = .ok (.invokevirtual 184, 3) := by decide +kernel
theorem dX11_undo_29 : decode cX11_undo 29 = .ok (.aload_n 0, 1) := by decide +kernel
theorem dX11_undo_30 : decode cX11_undo 30 = .ok (.aload_n 0, 1) := by decide +kernel
theorem dX11_undo_31 : decode cX11_undo 31 = .ok (.getfield 51, 3) := by decide +kernel
theorem dX11_undo_34 : decode cX11_undo 34 = .ok (.getfield 164, 3) := by decide +kernel
theorem dX11_undo_37 : decode cX11_undo 37 = .ok (.invokevirtual 98, 3) := by decide +kernel
theorem dX11_undo_40 : decode cX11_undo 40 = .ok (.ireturn, 1) := by decide +kernel
theorem dX11_redo_0 : decode cX11_redo 0 = .ok (.aload_n 0, 1) := by decide +kernel
theorem dX11_redo_1 : decode cX11_redo 1 = .ok (.getfield 51, 3) := by decide +kernel
theorem dX11_redo_4 : decode cX11_redo 4 = .ok (.invokevirtual 188, 3) := by decide +kernel
theorem dX11_redo_7 : decode cX11_redo 7 = .ok (.istore_n 1, 1) := by decide +kernel
theorem dX11_redo_8 : decode cX11_redo 8 = .ok (.iload_n 1, 1) := by decide +kernel
theorem dX11_redo_9 : decode cX11_redo 9 = .ok (.ifCond .ge 10, 3) := by decide +kernel
theorem dX11_redo_12 : decode cX11_redo 12 = .ok (.aload_n 0, 1) := by decide +kernel
theorem dX11_redo_13 : decode cX11_redo 13 = .ok (.bipush 8, 2) := by decide +kernel
theorem dX11_redo_15 : decode cX11_redo 15 = .ok (.invokevirtual 91, 3) := by decide +kernel
theorem dX11_redo_18 : decode cX11_redo 18 = .ok (.ireturn, 1) := by decide +kernel
theorem dX11_redo_19 : decode cX11_redo 19 = .ok (.aload_n 0, 1) := by decide +kernel
theorem dX11_redo_20 : decode cX11_redo 20 = .ok (.getfield 35, 3) := by decide +kernel
theorem dX11_redo_23 : decode cX11_redo 23 = .ok (.aload_n 0, 1) := by decide +kernel
theorem dX11_redo_24 : decode cX11_redo 24 = .ok (.getfield 26, 3) := by decide +kernel
theorem dX11_redo_27 : decode cX11_redo 27 = .ok (.getfield 108, 3) := by decide +kernel
theorem dX11_redo_30 : decode cX11_redo 30 = .ok (.aload_n 0, 1) := by decide +kernel
theorem dX11_redo_31 : decode cX11_redo 31 = .ok (.getfield 26, 3) := by decide +kernel
theorem dX11_redo_34 : decode cX11_redo 34 = .ok (.getfield 136, 3) := by decide +kernel
theorem dX11_redo_37 : decode cX11_redo 37 = .ok (.iload_n 1, 1) := by decide +kernel
theorem dX11_redo_38 : decode cX11_redo 38 = .ok (.invokevirtual 192, 3) := by decide +kernel
theorem dX11_redo_41 : decode cX11_redo 41 = .ok (.pop, 1) := by decide +kernel
theorem dX11_redo_42 : decode cX11_redo 42 = .ok (.aload_n 0, 1) := by decide +kernel
theorem dX11_redo_43 : decode cX11_redo 43 = .ok (.getfield 51, 3) := by decide +kernel
theorem dX11_redo_46 : decode cX11_redo 46 = .ok (.aload_n 0, 1) := by decide +kernel
theorem dX11_redo_47 : decode cX11_redo 47 = .ok (.getfield 26, 3) := by decide +kernel
theorem dX11_redo_50 : decode cX11_redo 50 = .ok (.invokevirtual 196, 3) := by decide +kernel
theorem dX11_redo_53 : decode cX11_redo 53 = .ok (.aload_n 0, 1) := by decide +kernel
theorem dX11_redo_54 : decode cX11_redo 54 = .ok (.getfield 26, 3) := by decide +kernel
theorem dX11_redo_57 : decode cX11_redo 57 = .ok (.aload_n 0, 1) := by decide +kernel
theorem dX11_redo_58 : decode cX11_redo 58 = .ok (.getfield 35, 3) := by decide +kernel
theorem dX11_redo_61 : decode cX11_redo 61 = .ok (.getfield 199, 3) := by decide +kernel
theorem dX11_redo_64 : decode cX11_redo 64 = .ok (.iload_n 1, 1) := by decide +kernel
theorem dX11_redo_65 : decode cX11_redo 65 = .ok (.aaload, 1) := by decide +kernel
theorem dX11_redo_66 : decode cX11_redo 66 = .ok (.aload_n 0, 1) := by decide +kernel
theorem dX11_redo_67 : decode cX11_redo 67 = .ok (.getfield 35, 3) := by decide +kernel
theorem dX11_redo_70 : decode cX11_redo 70 = .ok (.getfield 181, 3) := by decide +kernel
theorem dX11_redo_73 : decode cX11_redo 73 = .ok (.iload_n 1, 1) := by decide +kernel
theorem dX11_redo_74 : decode cX11_redo 74 = .ok (.iaload, 1) := by decide +kernel
theorem dX11_redo_75 : decode cX11_redo 75 = .ok (.invokevirtual 203, 3) := by decide +kernel
theorem dX11_redo_78 : decode cX11_redo 78 = .ok (.aload_n 0, 1) := by decide +kernel
theorem dX11_redo_79 : decode cX11_redo 79 = .ok (.aload_n 0, 1) := by decide +kernel
theorem dX11_redo_80 : decode cX11_redo 80 = .ok (.getfield 51, 3) := by decide +kernel
theorem dX11_redo_83 : decode cX11_redo 83 = .ok (.getfield 164, 3) := by decide +kernel
theorem dX11_redo_86 : decode cX11_redo 86 = .ok (.invokevirtual 98, 3) := by decide +kernel
theorem dX11_redo_89 : decode cX11_redo 89 = .ok (.ireturn, 1) := by decide +kernel
theorem dX11_pit_0 : decode cX11_pit 0 = .ok (.aload_n 0, 1) := by decide +kernel
theorem dX11_pit_1 : decode cX11_pit 1 = .ok (.iload_n 1, 1) := by decide +kernel
theorem dX11_pit_2 : decode cX11_pit 2 = .ok (.iload_n 2, 1) := by decide +kernel
theorem dX11_pit_3 : decode cX11_pit 3 = .ok (.invokevirtual 101, 3) := by decide +kernel
theorem dX11_pit_6 : decode cX11_pit 6 = .ok (.istore_n 3, 1) := by decide +kernel
theorem dX11_pit_7 : decode cX11_pit 7 = .ok (.iload_n 3, 1) := by decide +kernel
theorem dX11_pit_8 : decode cX11_pit 8 = .ok (.ifCond .eq 9, 3) := by decide +kernel
theorem dX11_pit_11 : decode cX11_pit 11 = .ok (.aload_n 0, 1) := by decide +kernel
theorem dX11_pit_12 : decode cX11_pit 12 = .ok (.iload_n 3, 1) := by decide +kernel
theorem dX11_pit_13 : decode cX11_pit 13 = .ok (.invokevirtual 91, 3) := by decide +kernel
theorem dX11_pit_16 : decode cX11_pit 16 = .ok (.ireturn, 1) := by decide +kernel
theorem dX11_pit_17 : decode cX11_pit 17 = .ok (.aload_n 0, 1) := by decide +kernel
theorem dX11_pit_18 : decode cX11_pit 18 = .ok (.aload_n 0, 1) := by decide +kernel
theorem dX11_pit_19 : decode cX11_pit 19 = .ok (.getfield 26, 3) := by decide +kernel
theorem dX11_pit_22 : decode cX11_pit 22 = .ok (.getfield 108, 3) := by decide +kernel
theorem dX11_pit_25 : decode cX11_pit 25 = .ok (.aload_n 0, 1) := by decide +kernel
theorem dX11_pit_26 : decode cX11_pit 26 = .ok (.getfield 12, 3) := by decide +kernel
theorem dX11_pit_29 : decode cX11_pit 29 = .ok (.iload_n 1, 1) := by decide +kernel
theorem dX11_pit_30 : decode cX11_pit 30 = .ok (.iload_n 2, 1) := by decide +kernel
theorem dX11_pit_31 : decode cX11_pit 31 = .ok (.invokevirtual 105, 3) := by decide +kernel
theorem dX11_pit_34 : decode cX11_pit 34 = .ok (.iaload, 1) := by decide +kernel
theorem dX11_pit_35 : decode cX11_pit 35 = .ok (.invokevirtual 98, 3) := by decide +kernel
theorem dX11_pit_38 : decode cX11_pit 38 = .ok (.ireturn, 1) := by decide +kernel
theorem dX11_stored_0 : decode cX11_stored 0 = .ok (.iload_n 1, 1) := by decide +kernel
theorem dX11_stored_1 : decode cX11_stored 1 = .ok (.invokestatic 129, 3) := by decide +kernel
theorem dX11_stored_4 : decode cX11_stored 4 = .ok (.ifCond .ne 9, 3) := by decide +kernel
theorem dX11_stored_7 : decode cX11_stored 7 = .ok (.aload_n 0, 1) := by decide +kernel
theorem dX11_stored_8 : decode cX11_stored 8 = .ok (.iconst 3, 1) := by decide +kernel
theorem dX11_stored_9 : decode cX11_stored 9 = .ok (.invokevirtual 91, 3) := by decide +kernel
theorem dX11_stored_12 : decode cX11_stored 12 = .ok (.ireturn, 1) := by decide +kernel
theorem dX11_stored_13 : decode cX11_stored 13 = .ok (.aload_n 0, 1) := by decide +kernel
theorem dX11_stored_14 : decode cX11_stored 14 = .ok (.aload_n 0, 1) := by decide +kernel
theorem dX11_stored_15 : decode cX11_stored 15 = .ok (.getfield 26, 3) := by decide +kernel
theorem dX11_stored_18 : decode cX11_stored 18 = .ok (.getfield 133, 3) := by decide +kernel
theorem dX11_stored_21 : decode cX11_stored 21 = .ok (.iload_n 1, 1) := by decide +kernel
theorem dX11_stored_22 : decode cX11_stored 22 = .ok (.iaload, 1) := by decide +kernel
theorem dX11_stored_23 : decode cX11_stored 23 = .ok (.invokevirtual 98, 3) := by decide +kernel
theorem dX11_stored_26 : decode cX11_stored 26 = .ok (.ireturn, 1) := by decide +kernel
theorem dX11_countOpen_0 : decode cX11_countOpen 0 = .ok (.aload_n 0, 1) := by decide +kernel
theorem dX11_countOpen_1 : decode cX11_countOpen 1 = .ok (.getfield 35, 3) := by decide +kernel
theorem dX11_countOpen_4 : decode cX11_countOpen 4 = .ok (.aload_n 0, 1) := by decide +kernel
theorem dX11_countOpen_5 : decode cX11_countOpen 5 = .ok (.getfield 26, 3) := by decide +kernel
theorem dX11_countOpen_8 : decode cX11_countOpen 8 = .ok (.getfield 108, 3) := by decide +kernel
theorem dX11_countOpen_11 : decode cX11_countOpen 11 = .ok (.aload_n 0, 1) := by decide +kernel
theorem dX11_countOpen_12 : decode cX11_countOpen 12 = .ok (.getfield 26, 3) := by decide +kernel
theorem dX11_countOpen_15 : decode cX11_countOpen 15 = .ok (.getfield 136, 3) := by decide +kernel
theorem dX11_countOpen_18 : decode cX11_countOpen 18 = .ok (.invokevirtual 167, 3) := by decide +kernel
theorem dX11_countOpen_21 : decode cX11_countOpen 21 = .ok (.ireturn, 1) := by decide +kernel
theorem dX11_scoreOf_0 : decode cX11_scoreOf 0 = .ok (.aload_n 0, 1) := by decide +kernel
theorem dX11_scoreOf_1 : decode cX11_scoreOf 1 = .ok (.invokevirtual 210, 3) := by decide +kernel
theorem dX11_scoreOf_4 : decode cX11_scoreOf 4 = .ok (.ifCond .le 13, 3) := by decide +kernel
theorem dX11_scoreOf_7 : decode cX11_scoreOf 7 = .ok (.aload_n 0, 1) := by decide +kernel
theorem dX11_scoreOf_8 : decode cX11_scoreOf 8 = .ok (.getfield 26, 3) := by decide +kernel
theorem dX11_scoreOf_11 : decode cX11_scoreOf 11 = .ok (.getfield 133, 3) := by decide +kernel
theorem dX11_scoreOf_14 : decode cX11_scoreOf 14 = .ok (.iload_n 1, 1) := by decide +kernel
theorem dX11_scoreOf_15 : decode cX11_scoreOf 15 = .ok (.iaload, 1) := by decide +kernel
theorem dX11_scoreOf_16 : decode cX11_scoreOf 16 = .ok (.ireturn, 1) := by decide +kernel
theorem dX11_scoreOf_17 : decode cX11_scoreOf 17 = .ok (.aload_n 0, 1) := by decide +kernel
theorem dX11_scoreOf_18 : decode cX11_scoreOf 18 = .ok (.getfield 26, 3) := by decide +kernel
theorem dX11_scoreOf_21 : decode cX11_scoreOf 21 = .ok (.getfield 133, 3) := by decide +kernel
theorem dX11_scoreOf_24 : decode cX11_scoreOf 24 = .ok (.iload_n 1, 1) := by decide +kernel
theorem dX11_scoreOf_25 : decode cX11_scoreOf 25 = .ok (.iaload, 1) := by decide +kernel
theorem dX11_scoreOf_26 : decode cX11_scoreOf 26 = .ok (.aload_n 0, 1) := by decide +kernel
theorem dX11_scoreOf_27 : decode cX11_scoreOf 27 = .ok (.getfield 19, 3) := by decide +kernel
theorem dX11_scoreOf_30 : decode cX11_scoreOf 30 = .ok (.iload_n 1, 1) := by decide +kernel
theorem dX11_scoreOf_31 : decode cX11_scoreOf 31 = .ok (.aload_n 0, 1) := by decide +kernel
theorem dX11_scoreOf_32 : decode cX11_scoreOf 32 = .ok (.getfield 26, 3) := by decide +kernel
theorem dX11_scoreOf_35 : decode cX11_scoreOf 35 = .ok (.getfield 136, 3) := by decide +kernel
theorem dX11_scoreOf_38 : decode cX11_scoreOf 38 = .ok (.aload_n 0, 1) := by decide +kernel
theorem dX11_scoreOf_39 : decode cX11_scoreOf 39 = .ok (.getfield 26, 3) := by decide +kernel
theorem dX11_scoreOf_42 : decode cX11_scoreOf 42 = .ok (.getfield 108, 3) := by decide +kernel
theorem dX11_scoreOf_45 : decode cX11_scoreOf 45 = .ok (.aload_n 0, 1) := by decide +kernel
theorem dX11_scoreOf_46 : decode cX11_scoreOf 46 = .ok (.getfield 12, 3) := by decide +kernel
theorem dX11_scoreOf_49 : decode cX11_scoreOf 49 = .ok (.invokevirtual 352, 3) := by decide +kernel
theorem dX11_scoreOf_52 : decode cX11_scoreOf 52 = .ok (.iadd, 1) := by decide +kernel
theorem dX11_scoreOf_53 : decode cX11_scoreOf 53 = .ok (.ireturn, 1) := by decide +kernel
theorem dX11_score_0 : decode cX11_score 0 = .ok (.iload_n 1, 1) := by decide +kernel
theorem dX11_score_1 : decode cX11_score 1 = .ok (.invokestatic 129, 3) := by decide +kernel
theorem dX11_score_4 : decode cX11_score 4 = .ok (.ifCond .ne 9, 3) := by decide +kernel
theorem dX11_score_7 : decode cX11_score 7 = .ok (.aload_n 0, 1) := by decide +kernel
theorem dX11_score_8 : decode cX11_score 8 = .ok (.iconst 3, 1) := by decide +kernel
theorem dX11_score_9 : decode cX11_score 9 = .ok (.invokevirtual 91, 3) := by decide +kernel
theorem dX11_score_12 : decode cX11_score 12 = .ok (.ireturn, 1) := by decide +kernel
theorem dX11_score_13 : decode cX11_score 13 = .ok (.aload_n 0, 1) := by decide +kernel
theorem dX11_score_14 : decode cX11_score 14 = .ok (.aload_n 0, 1) := by decide +kernel
theorem dX11_score_15 : decode cX11_score 15 = .ok (.iload_n 1, 1) := by decide +kernel
theorem dX11_score_16 : decode cX11_score 16 = .ok (.invokevirtual 207, 3) := by decide +kernel
theorem dX11_score_19 : decode cX11_score 19 = .ok (.invokevirtual 98, 3) := by decide +kernel
theorem dX11_score_22 : decode cX11_score 22 = .ok (.ireturn, 1) := by decide +kernel
theorem dX11_turn_0 : decode cX11_turn 0 = .ok (.aload_n 0, 1) := by decide +kernel
theorem dX11_turn_1 : decode cX11_turn 1 = .ok (.getfield 26, 3) := by decide +kernel
theorem dX11_turn_4 : decode cX11_turn 4 = .ok (.getfield 136, 3) := by decide +kernel
theorem dX11_turn_7 : decode cX11_turn 7 = .ok (.ireturn, 1) := by decide +kernel
theorem dX11_over_0 : decode cX11_over 0 = .ok (.aload_n 0, 1) := by decide +kernel
theorem dX11_over_1 : decode cX11_over 1 = .ok (.invokevirtual 210, 3) := by decide +kernel
theorem dX11_over_4 : decode cX11_over 4 = .ok (.ifCond .ne 7, 3) := by decide +kernel
theorem dX11_over_7 : decode cX11_over 7 = .ok (.iconst 1, 1) := by decide +kernel
theorem dX11_over_8 : decode cX11_over 8 = .ok (.goto 4, 3) := by decide +kernel
theorem dX11_over_11 : decode cX11_over 11 = .ok (.iconst 0, 1) := by decide +kernel
theorem dX11_over_12 : decode cX11_over 12 = .ok (.ireturn, 1) := by decide +kernel
theorem dX11_moves_0 : decode cX11_moves 0 = .ok (.aload_n 0, 1) := by decide +kernel
theorem dX11_moves_1 : decode cX11_moves 1 = .ok (.getfield 51, 3) := by decide +kernel
theorem dX11_moves_4 : decode cX11_moves 4 = .ok (.getfield 164, 3) := by decide +kernel
theorem dX11_moves_7 : decode cX11_moves 7 = .ok (.ireturn, 1) := by decide +kernel
theorem dX11_allowed_0 : decode cX11_allowed 0 = .ok (.aload_n 0, 1) := by decide +kernel
theorem dX11_allowed_1 : decode cX11_allowed 1 = .ok (.invokevirtual 210, 3) := by decide +kernel
theorem dX11_allowed_4 : decode cX11_allowed 4 = .ok (.ireturn, 1) := by decide +kernel
theorem dX11_acceptLong_0 : decode cX11_acceptLong 0 = .ok (.aload_n 0, 1) := by decide +kernel
theorem dX11_acceptLong_1 : decode cX11_acceptLong 1 = .ok (.iconst 0, 1) := by decide +kernel
theorem dX11_acceptLong_2 : decode cX11_acceptLong 2 = .ok (.putfield 83, 3) := by decide +kernel
theorem dX11_acceptLong_5 : decode cX11_acceptLong 5 = .ok (.lload_n 1, 1) := by decide +kernel
theorem dX11_acceptLong_6 : decode cX11_acceptLong 6 = .ok (.lreturn, 1) := by decide +kernel
theorem dX11_positions_0 : decode cX11_positions 0 = .ok (.iload_n 1, 1) := by decide +kernel
theorem dX11_positions_1 : decode cX11_positions 1 = .ok (.ifCond .lt 9, 3) := by decide +kernel
theorem dX11_positions_4 : decode cX11_positions 4 = .ok (.iload_n 1, 1) := by decide +kernel
theorem dX11_positions_5 : decode cX11_positions 5 = .ok (.bipush 12, 2) := by decide +kernel
theorem dX11_positions_7 : decode cX11_positions 7 = .ok (.if_icmp .le 11, 3) := by decide +kernel
theorem dX11_positions_10 : decode cX11_positions 10 = .ok (.aload_n 0, 1) := by decide +kernel
theorem dX11_positions_11 : decode cX11_positions 11 = .ok (.bipush 7, 2) := by decide +kernel
theorem dX11_positions_13 : decode cX11_positions 13 = .ok (.invokevirtual 91, 3) := by decide +kernel
theorem dX11_positions_16 : decode cX11_positions 16 = .ok (.i2l, 1) := by decide +kernel
theorem dX11_positions_17 : decode cX11_positions 17 = .ok (.lreturn, 1) := by decide +kernel
theorem dX11_positions_18 : decode cX11_positions 18 = .ok (.aload_n 0, 1) := by decide +kernel
theorem dX11_positions_19 : decode cX11_positions 19 = .ok (.ldc2_w 213, 3) := by decide +kernel
theorem dX11_positions_22 : decode cX11_positions 22 = .ok (.aload_n 0, 1) := by decide +kernel
theorem dX11_positions_23 : decode cX11_positions 23 = .ok (.getfield 44, 3) := by decide +kernel
theorem dX11_positions_26 : decode cX11_positions 26 = .ok (.iload_n 1, 1) := by decide +kernel
theorem dX11_positions_27 : decode cX11_positions 27 = .ok (.invokevirtual 215, 3) := by decide +kernel
theorem dX11_positions_30 : decode cX11_positions 30 = .ok (.lmul, 1) := by decide +kernel
theorem dX11_positions_31 : decode cX11_positions 31 = .ok (.invokevirtual 219, 3) := by decide +kernel
theorem dX11_positions_34 : decode cX11_positions 34 = .ok (.lreturn, 1) := by decide +kernel
theorem dX11_place_0 : decode cX11_place 0 = .ok (.aload_n 0, 1) := by decide +kernel
theorem dX11_place_1 : decode cX11_place 1 = .ok (.getfield 12, 3) := by decide +kernel
theorem dX11_place_4 : decode cX11_place 4 = .ok (.aload_n 0, 1) := by decide +kernel
theorem dX11_place_5 : decode cX11_place 5 = .ok (.getfield 26, 3) := by decide +kernel
theorem dX11_place_8 : decode cX11_place 8 = .ok (.getfield 108, 3) := by decide +kernel
theorem dX11_place_11 : decode cX11_place 11 = .ok (.invokevirtual 125, 3) := by decide +kernel
theorem dX11_place_14 : decode cX11_place 14 = .ok (.bipush 12, 2) := by decide +kernel
theorem dX11_place_16 : decode cX11_place 16 = .ok (.if_icmp .le 11, 3) := by decide +kernel
theorem dX11_place_19 : decode cX11_place 19 = .ok (.aload_n 0, 1) := by decide +kernel
theorem dX11_place_20 : decode cX11_place 20 = .ok (.bipush 10, 2) := by decide +kernel
theorem dX11_place_22 : decode cX11_place 22 = .ok (.invokevirtual 91, 3) := by decide +kernel
theorem dX11_place_25 : decode cX11_place 25 = .ok (.i2l, 1) := by decide +kernel
theorem dX11_place_26 : decode cX11_place 26 = .ok (.lreturn, 1) := by decide +kernel
theorem dX11_place_27 : decode cX11_place 27 = .ok (.aload_n 0, 1) := by decide +kernel
theorem dX11_place_28 : decode cX11_place 28 = .ok (.ldc2_w 213, 3) := by decide +kernel
theorem dX11_place_31 : decode cX11_place 31 = .ok (.aload_n 0, 1) := by decide +kernel
theorem dX11_place_32 : decode cX11_place 32 = .ok (.getfield 44, 3) := by decide +kernel
theorem dX11_place_35 : decode cX11_place 35 = .ok (.aload_n 0, 1) := by decide +kernel
theorem dX11_place_36 : decode cX11_place 36 = .ok (.getfield 26, 3) := by decide +kernel
theorem dX11_place_39 : decode cX11_place 39 = .ok (.getfield 108, 3) := by decide +kernel
theorem dX11_place_42 : decode cX11_place 42 = .ok (.invokevirtual 223, 3) := by decide +kernel
theorem dX11_place_45 : decode cX11_place 45 = .ok (.lmul, 1) := by decide +kernel
theorem dX11_place_46 : decode cX11_place 46 = .ok (.aload_n 0, 1) := by decide +kernel
theorem dX11_place_47 : decode cX11_place 47 = .ok (.getfield 26, 3) := by decide +kernel
theorem dX11_place_50 : decode cX11_place 50 = .ok (.getfield 136, 3) := by decide +kernel
theorem dX11_place_53 : decode cX11_place 53 = .ok (.i2l, 1) := by decide +kernel
theorem dX11_place_54 : decode cX11_place 54 = .ok (.ladd, 1) := by decide +kernel
theorem dX11_place_55 : decode cX11_place 55 = .ok (.invokevirtual 219, 3) := by decide +kernel
theorem dX11_place_58 : decode cX11_place 58 = .ok (.lreturn, 1) := by decide +kernel
theorem dX11_ofPlace_0 : decode cX11_ofPlace 0 = .ok (.lload_n 1, 1) := by decide +kernel
theorem dX11_ofPlace_1 : decode cX11_ofPlace 1 = .ok (.lconst 0, 1) := by decide +kernel
theorem dX11_ofPlace_2 : decode cX11_ofPlace 2 = .ok (.lcmp, 1) := by decide +kernel
theorem dX11_ofPlace_3 : decode cX11_ofPlace 3 = .ok (.ifCond .lt 21, 3) := by decide +kernel
theorem dX11_ofPlace_6 : decode cX11_ofPlace 6 = .ok (.lload_n 1, 1) := by decide +kernel
theorem dX11_ofPlace_7 : decode cX11_ofPlace 7 = .ok (.ldc2_w 213, 3) := by decide +kernel
theorem dX11_ofPlace_10 : decode cX11_ofPlace 10 = .ok (.aload_n 0, 1) := by decide +kernel
theorem dX11_ofPlace_11 : decode cX11_ofPlace 11 = .ok (.getfield 44, 3) := by decide +kernel
theorem dX11_ofPlace_14 : decode cX11_ofPlace 14 = .ok (.bipush 12, 2) := by decide +kernel
theorem dX11_ofPlace_16 : decode cX11_ofPlace 16 = .ok (.invokevirtual 215, 3) := by decide +kernel
theorem dX11_ofPlace_19 : decode cX11_ofPlace 19 = .ok (.lmul, 1) := by decide +kernel
theorem dX11_ofPlace_20 : decode cX11_ofPlace 20 = .ok (.lcmp, 1) := by decide +kernel
theorem dX11_ofPlace_21 : decode cX11_ofPlace 21 = .ok (.ifCond .lt 9, 3) := by decide +kernel
theorem dX11_ofPlace_24 : decode cX11_ofPlace 24 = .ok (.aload_n 0, 1) := by decide +kernel
theorem dX11_ofPlace_25 : decode cX11_ofPlace 25 = .ok (.iconst 3, 1) := by decide +kernel
theorem dX11_ofPlace_26 : decode cX11_ofPlace 26 = .ok (.invokevirtual 91, 3) := by decide +kernel
theorem dX11_ofPlace_29 : decode cX11_ofPlace 29 = .ok (.ireturn, 1) := by decide +kernel
theorem dX11_ofPlace_30 : decode cX11_ofPlace 30 = .ok (.iload_n 3, 1) := by decide +kernel
theorem dX11_ofPlace_31 : decode cX11_ofPlace 31 = .ok (.iconst (-1), 1) := by decide +kernel
theorem dX11_ofPlace_32 : decode cX11_ofPlace 32 = .ok (.if_icmp .lt 14, 3) := by decide +kernel
theorem dX11_ofPlace_35 : decode cX11_ofPlace 35 = .ok (.iload_n 3, 1) := by decide +kernel
theorem dX11_ofPlace_36 : decode cX11_ofPlace 36 = .ok (.aload_n 0, 1) := by decide +kernel
theorem dX11_ofPlace_37 : decode cX11_ofPlace 37 = .ok (.getfield 12, 3) := by decide +kernel
theorem dX11_ofPlace_40 : decode cX11_ofPlace 40 = .ok (.getfield 112, 3) := by decide +kernel
theorem dX11_ofPlace_43 : decode cX11_ofPlace 43 = .ok (.if_icmp .lt 10, 3) := by decide +kernel
theorem dX11_ofPlace_46 : decode cX11_ofPlace 46 = .ok (.aload_n 0, 1) := by decide +kernel
theorem dX11_ofPlace_47 : decode cX11_ofPlace 47 = .ok (.bipush 7, 2) := by decide +kernel
theorem dX11_ofPlace_49 : decode cX11_ofPlace 49 = .ok (.invokevirtual 91, 3) := by decide +kernel
theorem dX11_ofPlace_52 : decode cX11_ofPlace 52 = .ok (.ireturn, 1) := by decide +kernel
theorem dX11_ofPlace_53 : decode cX11_ofPlace 53 = .ok (.iload_n 3, 1) := by decide +kernel
theorem dX11_ofPlace_54 : decode cX11_ofPlace 54 = .ok (.iconst (-1), 1) := by decide +kernel
theorem dX11_ofPlace_55 : decode cX11_ofPlace 55 = .ok (.if_icmp .ne 12, 3) := by decide +kernel
theorem dX11_ofPlace_58 : decode cX11_ofPlace 58 = .ok (.aload_n 0, 1) := by decide +kernel
theorem dX11_ofPlace_59 : decode cX11_ofPlace 59 = .ok (.lload_n 1, 1) := by decide +kernel
theorem dX11_ofPlace_60 : decode cX11_ofPlace 60 = .ok (.lconst 1, 1) := by decide +kernel
theorem dX11_ofPlace_61 : decode cX11_ofPlace 61 = .ok (.land, 1) := by decide +kernel
theorem dX11_ofPlace_62 : decode cX11_ofPlace 62 = .ok (.l2i, 1) := by decide +kernel
theorem dX11_ofPlace_63 : decode cX11_ofPlace 63 = .ok (.invokevirtual 98, 3) := by decide +kernel
theorem dX11_ofPlace_66 : decode cX11_ofPlace 66 = .ok (.ireturn, 1) := by decide +kernel
theorem dX11_ofPlace_67 : decode cX11_ofPlace 67 = .ok (.aload_n 0, 1) := by decide +kernel
theorem dX11_ofPlace_68 : decode cX11_ofPlace 68 = .ok (.aload_n 0, 1) := by decide +kernel
theorem dX11_ofPlace_69 : decode cX11_ofPlace 69 = .ok (.getfield 44, 3) := by decide +kernel
theorem dX11_ofPlace_72 : decode cX11_ofPlace 72 = .ok (.lload_n 1, 1) := by decide +kernel
theorem dX11_ofPlace_73 : decode cX11_ofPlace 73 = .ok (.iconst 1, 1) := by decide +kernel
theorem dX11_ofPlace_74 : decode cX11_ofPlace 74 = .ok (.lshr, 1) := by decide +kernel
theorem dX11_ofPlace_75 : decode cX11_ofPlace 75 = .ok (.iload_n 3, 1) := by decide +kernel
theorem dX11_ofPlace_76 : decode cX11_ofPlace 76 = .ok (.invokevirtual 227, 3) := by decide +kernel
theorem dX11_ofPlace_79 : decode cX11_ofPlace 79 = .ok (.invokevirtual 98, 3) := by decide +kernel
theorem dX11_ofPlace_82 : decode cX11_ofPlace 82 = .ok (.ireturn, 1) := by decide +kernel
theorem dX11_solve_0 : decode cX11_solve 0 = .ok (.iload_n 1, 1) := by decide +kernel
theorem dX11_solve_1 : decode cX11_solve 1 = .ok (.ifCond .lt 9, 3) := by decide +kernel
theorem dX11_solve_4 : decode cX11_solve 4 = .ok (.iload_n 1, 1) := by decide +kernel
theorem dX11_solve_5 : decode cX11_solve 5 = .ok (.bipush 12, 2) := by decide +kernel
theorem dX11_solve_7 : decode cX11_solve 7 = .ok (.if_icmp .le 10, 3) := by decide +kernel
theorem dX11_solve_10 : decode cX11_solve 10 = .ok (.aload_n 0, 1) := by decide +kernel
theorem dX11_solve_11 : decode cX11_solve 11 = .ok (.bipush 7, 2) := by decide +kernel
theorem dX11_solve_13 : decode cX11_solve 13 = .ok (.invokevirtual 91, 3) := by decide +kernel
theorem dX11_solve_16 : decode cX11_solve 16 = .ok (.ireturn, 1) := by decide +kernel
theorem dX11_solve_17 : decode cX11_solve 17 = .ok (.ldc2_w 213, 3) := by decide +kernel
theorem dX11_solve_20 : decode cX11_solve 20 = .ok (.aload_n 0, 1) := by decide +kernel
theorem dX11_solve_21 : decode cX11_solve 21 = .ok (.getfield 44, 3) := by decide +kernel
theorem dX11_solve_24 : decode cX11_solve 24 = .ok (.iload_n 1, 1) := by decide +kernel
theorem dX11_solve_25 : decode cX11_solve 25 = .ok (.invokevirtual 215, 3) := by decide +kernel
theorem dX11_solve_28 : decode cX11_solve 28 = .ok (.lmul, 1) := by decide +kernel
theorem dX11_solve_29 : decode cX11_solve 29 = .ok (.ldc2_w 231, 3) := by decide +kernel
theorem dX11_solve_32 : decode cX11_solve 32 = .ok (.lcmp, 1) := by decide +kernel
theorem dX11_solve_33 : decode cX11_solve 33 = .ok (.ifCond .gt 31, 3) := by decide +kernel
theorem dX11_solve_36 : decode cX11_solve 36 = .ok (.ldc2_w 213, 3) := by decide +kernel
theorem dX11_solve_39 : decode cX11_solve 39 = .ok (.aload_n 0, 1) := by decide +kernel
theorem dX11_solve_40 : decode cX11_solve 40 = .ok (.getfield 44, 3) := by decide +kernel
theorem dX11_solve_43 : decode cX11_solve 43 = .ok (.iload_n 1, 1) := by decide +kernel
theorem dX11_solve_44 : decode cX11_solve 44 = .ok (.invokevirtual 233, 3) := by decide +kernel
theorem dX11_solve_47 : decode cX11_solve 47 = .ok (.lmul, 1) := by decide +kernel
theorem dX11_solve_48 : decode cX11_solve 48 = .ok (.aload_n 0, 1) := by decide +kernel
theorem dX11_solve_49 : decode cX11_solve 49 = .ok (.getfield 12, 3) := by decide +kernel
theorem dX11_solve_52 : decode cX11_solve 52 = .ok (.invokevirtual 236, 3) := by decide +kernel
theorem dX11_solve_55 : decode cX11_solve 55 = .ok (.i2l, 1) := by decide +kernel
theorem dX11_solve_56 : decode cX11_solve 56 = .ok (.lmul, 1) := by decide +kernel
theorem dX11_solve_57 : decode cX11_solve 57 = .ok (.ldc2_w 239, 3) := by decide +kernel
theorem dX11_solve_60 : decode cX11_solve 60 = .ok (.lcmp, 1) := by decide +kernel
theorem dX11_solve_61 : decode cX11_solve 61 = .ok (.ifCond .le 10, 3) := by decide +kernel
theorem dX11_solve_64 : decode cX11_solve 64 = .ok (.aload_n 0, 1) := by decide +kernel
theorem dX11_solve_65 : decode cX11_solve 65 = .ok (.bipush 10, 2) := by decide +kernel
theorem dX11_solve_67 : decode cX11_solve 67 = .ok (.invokevirtual 91, 3) := by decide +kernel
theorem dX11_solve_70 : decode cX11_solve 70 = .ok (.ireturn, 1) := by decide +kernel
theorem dX11_solve_71 : decode cX11_solve 71 = .ok (.aload_n 0, 1) := by decide +kernel
theorem dX11_solve_72 : decode cX11_solve 72 = .ok (.getfield 65, 3) := by decide +kernel
theorem dX11_solve_75 : decode cX11_solve 75 = .ok (.iload_n 1, 1) := by decide +kernel
theorem dX11_solve_76 : decode cX11_solve 76 = .ok (.invokevirtual 241, 3) := by decide +kernel
theorem dX11_solve_79 : decode cX11_solve 79 = .ok (.aload_n 0, 1) := by decide +kernel
theorem dX11_solve_80 : decode cX11_solve 80 = .ok (.getfield 72, 3) := by decide +kernel
theorem dX11_solve_83 : decode cX11_solve 83 = .ok (.invokevirtual 244, 3) := by decide +kernel
theorem dX11_solve_86 : decode cX11_solve 86 = .ok (.aload_n 0, 1) := by decide +kernel
theorem dX11_solve_87 : decode cX11_solve 87 = .ok (.aload_n 0, 1) := by decide +kernel
theorem dX11_solve_88 : decode cX11_solve 88 = .ok (.getfield 65, 3) := by decide +kernel
theorem dX11_solve_91 : decode cX11_solve 91 = .ok (.getfield 245, 3) := by decide +kernel
theorem dX11_solve_94 : decode cX11_solve 94 = .ok (.invokevirtual 98, 3) := by decide +kernel
theorem dX11_solve_97 : decode cX11_solve 97 = .ok (.ireturn, 1) := by decide +kernel
theorem dX11_goOn_0 : decode cX11_goOn 0 = .ok (.aload_n 0, 1) := by decide +kernel
theorem dX11_goOn_1 : decode cX11_goOn 1 = .ok (.getfield 65, 3) := by decide +kernel
theorem dX11_goOn_4 : decode cX11_goOn 4 = .ok (.getfield 248, 3) := by decide +kernel
theorem dX11_goOn_7 : decode cX11_goOn 7 = .ok (.ifCond .ne 10, 3) := by decide +kernel
theorem dX11_goOn_10 : decode cX11_goOn 10 = .ok (.aload_n 0, 1) := by decide +kernel
theorem dX11_goOn_11 : decode cX11_goOn 11 = .ok (.bipush 9, 2) := by decide +kernel
theorem dX11_goOn_13 : decode cX11_goOn 13 = .ok (.invokevirtual 91, 3) := by decide +kernel
theorem dX11_goOn_16 : decode cX11_goOn 16 = .ok (.ireturn, 1) := by decide +kernel
theorem dX11_goOn_17 : decode cX11_goOn 17 = .ok (.iload_n 1, 1) := by decide +kernel
theorem dX11_goOn_18 : decode cX11_goOn 18 = .ok (.iconst 1, 1) := by decide +kernel
theorem dX11_goOn_19 : decode cX11_goOn 19 = .ok (.if_icmp .lt 9, 3) := by decide +kernel
theorem dX11_goOn_22 : decode cX11_goOn 22 = .ok (.iload_n 1, 1) := by decide +kernel
theorem dX11_goOn_23 : decode cX11_goOn 23 = .ok (.bipush 13, 2) := by decide +kernel
theorem dX11_goOn_25 : decode cX11_goOn 25 = .ok (.if_icmp .le 10, 3) := by decide +kernel
theorem dX11_goOn_28 : decode cX11_goOn 28 = .ok (.aload_n 0, 1) := by decide +kernel
theorem dX11_goOn_29 : decode cX11_goOn 29 = .ok (.bipush 7, 2) := by decide +kernel
theorem dX11_goOn_31 : decode cX11_goOn 31 = .ok (.invokevirtual 91, 3) := by decide +kernel
theorem dX11_goOn_34 : decode cX11_goOn 34 = .ok (.ireturn, 1) := by decide +kernel
theorem dX11_goOn_35 : decode cX11_goOn 35 = .ok (.iconst 0, 1) := by decide +kernel
theorem dX11_goOn_36 : decode cX11_goOn 36 = .ok (.istore_n 2, 1) := by decide +kernel
theorem dX11_goOn_37 : decode cX11_goOn 37 = .ok (.iload_n 2, 1) := by decide +kernel
theorem dX11_goOn_38 : decode cX11_goOn 38 = .ok (.iload_n 1, 1) := by decide +kernel
theorem dX11_goOn_39 : decode cX11_goOn 39 = .ok (.if_icmp .ge 26, 3) := by decide +kernel
theorem dX11_goOn_42 : decode cX11_goOn 42 = .ok (.aload_n 0, 1) := by decide +kernel
theorem dX11_goOn_43 : decode cX11_goOn 43 = .ok (.getfield 65, 3) := by decide +kernel
theorem dX11_goOn_46 : decode cX11_goOn 46 = .ok (.invokevirtual 251, 3) := by decide +kernel
theorem dX11_goOn_49 : decode cX11_goOn 49 = .ok (.ifCond .le 16, 3) := by decide +kernel
theorem dX11_goOn_52 : decode cX11_goOn 52 = .ok (.aload_n 0, 1) := by decide +kernel
theorem dX11_goOn_53 : decode cX11_goOn 53 = .ok (.getfield 65, 3) := by decide +kernel
theorem dX11_goOn_56 : decode cX11_goOn 56 = .ok (.invokevirtual 254, 3) := by decide +kernel
theorem dX11_goOn_59 : decode cX11_goOn 59 = .ok (.iinc 2 1, 3) := by decide +kernel
theorem dX11_goOn_62 : decode cX11_goOn 62 = .ok (.goto (-25), 3) := by decide +kernel
theorem dX11_goOn_65 : decode cX11_goOn 65 = .ok (.aload_n 0, 1) := by decide +kernel
theorem dX11_goOn_66 : decode cX11_goOn 66 = .ok (.aload_n 0, 1) := by decide +kernel
theorem dX11_goOn_67 : decode cX11_goOn 67 = .ok (.getfield 65, 3) := by decide +kernel
theorem dX11_goOn_70 : decode cX11_goOn 70 = .ok (.invokevirtual 251, 3) := by decide +kernel
theorem dX11_goOn_73 : decode cX11_goOn 73 = .ok (.invokevirtual 98, 3) := by decide +kernel
theorem dX11_goOn_76 : decode cX11_goOn 76 = .ok (.ireturn, 1) := by decide +kernel
theorem dX11_value_0 : decode cX11_value 0 = .ok (.aload_n 0, 1) := by decide +kernel
theorem dX11_value_1 : decode cX11_value 1 = .ok (.getfield 65, 3) := by decide +kernel
theorem dX11_value_4 : decode cX11_value 4 = .ok (.iload_n 1, 1) := by decide +kernel
theorem dX11_value_5 : decode cX11_value 5 = .ok (.invokevirtual 257, 3) := by decide +kernel
theorem dX11_value_8 : decode cX11_value 8 = .ok (.istore_n 2, 1) := by decide +kernel
theorem dX11_value_9 : decode cX11_value 9 = .ok (.iload_n 2, 1) := by decide +kernel
theorem dX11_value_10 : decode cX11_value 10 = .ok (.ifCond .eq 9, 3) := by decide +kernel
theorem dX11_value_13 : decode cX11_value 13 = .ok (.aload_n 0, 1) := by decide +kernel
theorem dX11_value_14 : decode cX11_value 14 = .ok (.iload_n 2, 1) := by decide +kernel
theorem dX11_value_15 : decode cX11_value 15 = .ok (.invokevirtual 91, 3) := by decide +kernel
theorem dX11_value_18 : decode cX11_value 18 = .ok (.ireturn, 1) := by decide +kernel
theorem dX11_value_19 : decode cX11_value 19 = .ok (.aload_n 0, 1) := by decide +kernel
theorem dX11_value_20 : decode cX11_value 20 = .ok (.aload_n 0, 1) := by decide +kernel
theorem dX11_value_21 : decode cX11_value 21 = .ok (.getfield 65, 3) := by decide +kernel
theorem dX11_value_24 : decode cX11_value 24 = .ok (.getfield 260, 3) := by decide +kernel
theorem dX11_value_27 : decode cX11_value 27 = .ok (.iload_n 1, 1) := by decide +kernel
theorem dX11_value_28 : decode cX11_value 28 = .ok (.iaload, 1) := by decide +kernel
theorem dX11_value_29 : decode cX11_value 29 = .ok (.invokevirtual 98, 3) := by decide +kernel
theorem dX11_value_32 : decode cX11_value 32 = .ok (.ireturn, 1) := by decide +kernel
theorem dX11_rank_0 : decode cX11_rank 0 = .ok (.aload_n 0, 1) := by decide +kernel
theorem dX11_rank_1 : decode cX11_rank 1 = .ok (.getfield 65, 3) := by decide +kernel
theorem dX11_rank_4 : decode cX11_rank 4 = .ok (.iload_n 1, 1) := by decide +kernel
theorem dX11_rank_5 : decode cX11_rank 5 = .ok (.invokevirtual 257, 3) := by decide +kernel
theorem dX11_rank_8 : decode cX11_rank 8 = .ok (.istore_n 2, 1) := by decide +kernel
theorem dX11_rank_9 : decode cX11_rank 9 = .ok (.iload_n 2, 1) := by decide +kernel
theorem dX11_rank_10 : decode cX11_rank 10 = .ok (.ifCond .eq 9, 3) := by decide +kernel
theorem dX11_rank_13 : decode cX11_rank 13 = .ok (.aload_n 0, 1) := by decide +kernel
theorem dX11_rank_14 : decode cX11_rank 14 = .ok (.iload_n 2, 1) := by decide +kernel
theorem dX11_rank_15 : decode cX11_rank 15 = .ok (.invokevirtual 91, 3) := by decide +kernel
theorem dX11_rank_18 : decode cX11_rank 18 = .ok (.ireturn, 1) := by decide +kernel
theorem dX11_rank_19 : decode cX11_rank 19 = .ok (.aload_n 0, 1) := by decide +kernel
theorem dX11_rank_20 : decode cX11_rank 20 = .ok (.aload_n 0, 1) := by decide +kernel
theorem dX11_rank_21 : decode cX11_rank 21 = .ok (.getfield 65, 3) := by decide +kernel
theorem dX11_rank_24 : decode cX11_rank 24 = .ok (.getfield 263, 3) := by decide +kernel
theorem dX11_rank_27 : decode cX11_rank 27 = .ok (.iload_n 1, 1) := by decide +kernel
theorem dX11_rank_28 : decode cX11_rank 28 = .ok (.iaload, 1) := by decide +kernel
theorem dX11_rank_29 : decode cX11_rank 29 = .ok (.invokevirtual 98, 3) := by decide +kernel
theorem dX11_rank_32 : decode cX11_rank 32 = .ok (.ireturn, 1) := by decide +kernel
theorem dX11_best_0 : decode cX11_best 0 = .ok (.aload_n 0, 1) := by decide +kernel
theorem dX11_best_1 : decode cX11_best 1 = .ok (.getfield 65, 3) := by decide +kernel
theorem dX11_best_4 : decode cX11_best 4 = .ok (.iload_n 1, 1) := by decide +kernel
theorem dX11_best_5 : decode cX11_best 5 = .ok (.invokevirtual 257, 3) := by decide +kernel
theorem dX11_best_8 : decode cX11_best 8 = .ok (.istore_n 2, 1) := by decide +kernel
theorem dX11_best_9 : decode cX11_best 9 = .ok (.iload_n 2, 1) := by decide +kernel
theorem dX11_best_10 : decode cX11_best 10 = .ok (.ifCond .eq 9, 3) := by decide +kernel
theorem dX11_best_13 : decode cX11_best 13 = .ok (.aload_n 0, 1) := by decide +kernel
theorem dX11_best_14 : decode cX11_best 14 = .ok (.iload_n 2, 1) := by decide +kernel
theorem dX11_best_15 : decode cX11_best 15 = .ok (.invokevirtual 91, 3) := by decide +kernel
theorem dX11_best_18 : decode cX11_best 18 = .ok (.ireturn, 1) := by decide +kernel
theorem dX11_best_19 : decode cX11_best 19 = .ok (.aload_n 0, 1) := by decide +kernel
theorem dX11_best_20 : decode cX11_best 20 = .ok (.getfield 65, 3) := by decide +kernel
theorem dX11_best_23 : decode cX11_best 23 = .ok (.iload_n 1, 1) := by decide +kernel
theorem dX11_best_24 : decode cX11_best 24 = .ok (.invokevirtual 266, 3) := by decide +kernel
theorem dX11_best_27 : decode cX11_best 27 = .ok (.istore_n 3, 1) := by decide +kernel
theorem dX11_best_28 : decode cX11_best 28 = .ok (.iload_n 3, 1) := by decide +kernel
theorem dX11_best_29 : decode cX11_best 29 = .ok (.ifCond .ge 9, 3) := by decide +kernel
theorem dX11_best_32 : decode cX11_best 32 = .ok (.aload_n 0, 1) := by decide +kernel
theorem dX11_best_33 : decode cX11_best 33 = .ok (.iconst 5, 1) := by decide +kernel
theorem dX11_best_34 : decode cX11_best 34 = .ok (.invokevirtual 91, 3) := by decide +kernel
theorem dX11_best_37 : decode cX11_best 37 = .ok (.ireturn, 1) := by decide +kernel
theorem dX11_best_38 : decode cX11_best 38 = .ok (.aload_n 0, 1) := by decide +kernel
theorem dX11_best_39 : decode cX11_best 39 = .ok (.iload_n 3, 1) := by decide +kernel
theorem dX11_best_40 : decode cX11_best 40 = .ok (.invokestatic 269, 3) := by decide +kernel
theorem dX11_best_43 : decode cX11_best 43 = .ok (.invokevirtual 98, 3) := by decide +kernel
theorem dX11_best_46 : decode cX11_best 46 = .ok (.ireturn, 1) := by decide +kernel
theorem dX11_reaches_0 : decode cX11_reaches 0 = .ok (.aload_n 0, 1) := by decide +kernel
theorem dX11_reaches_1 : decode cX11_reaches 1 = .ok (.getfield 65, 3) := by decide +kernel
theorem dX11_reaches_4 : decode cX11_reaches 4 = .ok (.iload_n 1, 1) := by decide +kernel
theorem dX11_reaches_5 : decode cX11_reaches 5 = .ok (.invokevirtual 257, 3) := by decide +kernel
theorem dX11_reaches_8 : decode cX11_reaches 8 = .ok (.istore_n 3, 1) := by decide +kernel
theorem dX11_reaches_9 : decode cX11_reaches 9 = .ok (.iload_n 3, 1) := by decide +kernel
theorem dX11_reaches_10 : decode cX11_reaches 10 = .ok (.ifCond .eq 9, 3) := by decide +kernel
theorem dX11_reaches_13 : decode cX11_reaches 13 = .ok (.aload_n 0, 1) := by decide +kernel
theorem dX11_reaches_14 : decode cX11_reaches 14 = .ok (.iload_n 3, 1) := by decide +kernel
theorem dX11_reaches_15 : decode cX11_reaches 15 = .ok (.invokevirtual 91, 3) := by decide +kernel
theorem dX11_reaches_18 : decode cX11_reaches 18 = .ok (.ireturn, 1) := by decide +kernel
theorem dX11_reaches_19 : decode cX11_reaches 19 = .ok (.iload_n 2, 1) := by decide +kernel
theorem dX11_reaches_20 : decode cX11_reaches 20 = .ok (.ifCond .lt 14, 3) := by decide +kernel
theorem dX11_reaches_23 : decode cX11_reaches 23 = .ok (.iload_n 2, 1) := by decide +kernel
theorem dX11_reaches_24 : decode cX11_reaches 24 = .ok (.aload_n 0, 1) := by decide +kernel
theorem dX11_reaches_25 : decode cX11_reaches 25 = .ok (.getfield 12, 3) := by decide +kernel
theorem dX11_reaches_28 : decode cX11_reaches 28 = .ok (.getfield 95, 3) := by decide +kernel
theorem dX11_reaches_31 : decode cX11_reaches 31 = .ok (.if_icmp .lt 9, 3) := by decide +kernel
theorem dX11_reaches_34 : decode cX11_reaches 34 = .ok (.aload_n 0, 1) := by decide +kernel
theorem dX11_reaches_35 : decode cX11_reaches 35 = .ok (.iconst 3, 1) := by decide +kernel
theorem dX11_reaches_36 : decode cX11_reaches 36 = .ok (.invokevirtual 91, 3) := by decide +kernel
theorem dX11_reaches_39 : decode cX11_reaches 39 = .ok (.ireturn, 1) := by decide +kernel
theorem dX11_reaches_40 : decode cX11_reaches 40 = .ok (.aload_n 0, 1) := by decide +kernel
theorem dX11_reaches_41 : decode cX11_reaches 41 = .ok (.getfield 65, 3) := by decide +kernel
theorem dX11_reaches_44 : decode cX11_reaches 44 = .ok (.getfield 272, 3) := by decide +kernel
theorem dX11_reaches_47 : decode cX11_reaches 47 = .ok (.iload_n 1, 1) := by decide +kernel
theorem dX11_reaches_48 : decode cX11_reaches 48 = .ok (.iload_n 2, 1) := by decide +kernel
theorem dX11_reaches_49 : decode cX11_reaches 49 = .ok (.invokevirtual 276, 3) := by decide +kernel
theorem dX11_reaches_52 : decode cX11_reaches 52 = .ok (.istore 4, 2) := by decide +kernel
theorem dX11_reaches_54 : decode cX11_reaches 54 = .ok (.iload 4, 2) := by decide +kernel
theorem dX11_reaches_56 : decode cX11_reaches 56 = .ok (.ifCond .ge 9, 3) := by decide +kernel
theorem dX11_reaches_59 : decode cX11_reaches 59 = .ok (.aload_n 0, 1) := by decide +kernel
theorem dX11_reaches_60 : decode cX11_reaches 60 = .ok (.iconst 5, 1) := by decide +kernel
theorem dX11_reaches_61 : decode cX11_reaches 61 = .ok (.invokevirtual 91, 3) := by decide +kernel
theorem dX11_reaches_64 : decode cX11_reaches 64 = .ok (.ireturn, 1) := by decide +kernel
theorem dX11_reaches_65 : decode cX11_reaches 65 = .ok (.aload_n 0, 1) := by decide +kernel
theorem dX11_reaches_66 : decode cX11_reaches 66 = .ok (.aload_n 0, 1) := by decide +kernel
theorem dX11_reaches_67 : decode cX11_reaches 67 = .ok (.getfield 65, 3) := by decide +kernel
theorem dX11_reaches_70 : decode cX11_reaches 70 = .ok (.iload 4, 2) := by decide +kernel
theorem dX11_reaches_72 : decode cX11_reaches 72 = .ok (.invokevirtual 279, 3) := by decide +kernel
theorem dX11_reaches_75 : decode cX11_reaches 75 = .ok (.invokevirtual 98, 3) := by decide +kernel
theorem dX11_reaches_78 : decode cX11_reaches 78 = .ok (.ireturn, 1) := by decide +kernel
