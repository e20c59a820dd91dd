theorem dX0_init_0 : decode cX0_init 0 = .ok (.aload_n 0, 1) := by decide +kernel
theorem dX0_init_1 : decode cX0_init 1 = .ok (.invokespecial 3, 3) := by decide +kernel
theorem dX0_init_4 : decode cX0_init 4 = .ok (.aload_n 0, 1) := by decide +kernel
theorem dX0_init_5 : decode cX0_init 5 = .ok (.iconst 0, 1) := by decide +kernel
theorem dX0_init_6 : decode cX0_init 6 = .ok (.newarray .int, 2) := by decide +kernel
theorem dX0_init_8 : decode cX0_init 8 = .ok (.putfield 9, 3) := by decide +kernel
theorem dX0_init_11 : decode cX0_init 11 = .ok (.aload_n 0, 1) := by decide +kernel
theorem dX0_init_12 : decode cX0_init 12 = .ok (.iconst 1, 1) := by decide +kernel
theorem dX0_init_13 : decode cX0_init 13 = .ok (.newarray .int, 2) := by decide +kernel
theorem dX0_init_15 : decode cX0_init 15 = .ok (.putfield 15, 3) := by decide +kernel
theorem dX0_init_18 : decode cX0_init 18 = .ok (.aload_n 0, 1) := by decide +kernel
theorem dX0_init_19 : decode cX0_init 19 = .ok (.iconst 0, 1) := by decide +kernel
theorem dX0_init_20 : decode cX0_init 20 = .ok (.newarray .int, 2) := by decide +kernel
theorem dX0_init_22 : decode cX0_init 22 = .ok (.putfield 18, 3) := by decide +kernel
theorem dX0_init_25 : decode cX0_init 25 = .ok (.aload_n 0, 1) := by decide +kernel
theorem dX0_init_26 : decode cX0_init 26 = .ok (.bipush 32, 2) := by decide +kernel
theorem dX0_init_28 : decode cX0_init 28 = .ok (.newarray .int, 2) := by decide +kernel
theorem dX0_init_30 : decode cX0_init 30 = .ok (.putfield 21, 3) := by decide +kernel
theorem dX0_init_33 : decode cX0_init 33 = .ok (.aload_n 0, 1) := by decide +kernel
theorem dX0_init_34 : decode cX0_init 34 = .ok (.aload_n 1, 1) := by decide +kernel
theorem dX0_init_35 : decode cX0_init 35 = .ok (.putfield 24, 3) := by decide +kernel
theorem dX0_init_38 : decode cX0_init 38 = .ok (.aload_n 0, 1) := by decide +kernel
theorem dX0_init_39 : decode cX0_init 39 = .ok (.aload_n 2, 1) := by decide +kernel
theorem dX0_init_40 : decode cX0_init 40 = .ok (.putfield 28, 3) := by decide +kernel
theorem dX0_init_43 : decode cX0_init 43 = .ok (.aload_n 0, 1) := by decide +kernel
theorem dX0_init_44 : decode cX0_init 44 = .ok (.aload_n 3, 1) := by decide +kernel
theorem dX0_init_45 : decode cX0_init 45 = .ok (.putfield 32, 3) := by decide +kernel
theorem dX0_init_48 : decode cX0_init 48 = .ok (.aload_n 0, 1) := by decide +kernel
theorem dX0_init_49 : decode cX0_init 49 = .ok (.aload 4, 2) := by decide +kernel
theorem dX0_init_51 : decode cX0_init 51 = .ok (.putfield 36, 3) := by decide +kernel
theorem dX0_init_54 : decode cX0_init 54 = .ok (.return_, 1) := by decide +kernel
theorem dX0_pitOf_0 : decode cX0_pitOf 0 = .ok (.iload_n 0, 1) := by decide +kernel
theorem dX0_pitOf_1 : decode cX0_pitOf 1 = .ok (.bipush 20, 2) := by decide +kernel
theorem dX0_pitOf_3 : decode cX0_pitOf 3 = .ok (.ishr, 1) := by decide +kernel
theorem dX0_pitOf_4 : decode cX0_pitOf 4 = .ok (.ireturn, 1) := by decide +kernel
theorem dX0_takenBy_0 : decode cX0_takenBy 0 = .ok (.iload_n 0, 1) := by decide +kernel
theorem dX0_takenBy_1 : decode cX0_takenBy 1 = .ok (.bipush 16, 2) := by decide +kernel
theorem dX0_takenBy_3 : decode cX0_takenBy 3 = .ok (.ishr, 1) := by decide +kernel
theorem dX0_takenBy_4 : decode cX0_takenBy 4 = .ok (.bipush 15, 2) := by decide +kernel
theorem dX0_takenBy_6 : decode cX0_takenBy 6 = .ok (.iand, 1) := by decide +kernel
theorem dX0_takenBy_7 : decode cX0_takenBy 7 = .ok (.ireturn, 1) := by decide +kernel
theorem dX0_placeBehind_0 : decode cX0_placeBehind 0 = .ok (.iload_n 0, 1) := by decide +kernel
theorem dX0_placeBehind_1 : decode cX0_placeBehind 1 = .ok (.ldc 40, 2) := by decide +kernel
theorem dX0_placeBehind_3 : decode cX0_placeBehind 3 = .ok (.iand, 1) := by decide +kernel
theorem dX0_placeBehind_4 : decode cX0_placeBehind 4 = .ok (.ireturn, 1) := by decide +kernel
theorem dX0_clear_0 : decode cX0_clear 0 = .ok (.aload_n 0, 1) := by decide +kernel
theorem dX0_clear_1 : decode cX0_clear 1 = .ok (.iconst 0, 1) := by decide +kernel
theorem dX0_clear_2 : decode cX0_clear 2 = .ok (.putfield 41, 3) := by decide +kernel
theorem dX0_clear_5 : decode cX0_clear 5 = .ok (.return_, 1) := by decide +kernel
theorem dX0_hasMove_0 : decode cX0_hasMove 0 = .ok (.aload_n 0, 1) := by decide +kernel
theorem dX0_hasMove_1 : decode cX0_hasMove 1 = .ok (.getfield 15, 3) := by decide +kernel
theorem dX0_hasMove_4 : decode cX0_hasMove 4 = .ok (.iload_n 1, 1) := by decide +kernel
theorem dX0_hasMove_5 : decode cX0_hasMove 5 = .ok (.iaload, 1) := by decide +kernel
theorem dX0_hasMove_6 : decode cX0_hasMove 6 = .ok (.aload_n 0, 1) := by decide +kernel
theorem dX0_hasMove_7 : decode cX0_hasMove 7 = .ok (.getfield 15, 3) := by decide +kernel
theorem dX0_hasMove_10 : decode cX0_hasMove 10 = .ok (.iload_n 1, 1) := by decide +kernel
theorem dX0_hasMove_11 : decode cX0_hasMove 11 = .ok (.iconst 1, 1) := by decide +kernel
theorem dX0_hasMove_12 : decode cX0_hasMove 12 = .ok (.iadd, 1) := by decide +kernel
theorem dX0_hasMove_13 : decode cX0_hasMove 13 = .ok (.iaload, 1) := by decide +kernel
theorem dX0_hasMove_14 : decode cX0_hasMove 14 = .ok (.if_icmp .ge 7, 3) := by decide +kernel
theorem dX0_hasMove_17 : decode cX0_hasMove 17 = .ok (.iconst 1, 1) := by decide +kernel
theorem dX0_hasMove_18 : decode cX0_hasMove 18 = .ok (.goto 4, 3) := by decide +kernel
theorem dX0_hasMove_21 : decode cX0_hasMove 21 = .ok (.iconst 0, 1) := by decide +kernel
theorem dX0_hasMove_22 : decode cX0_hasMove 22 = .ok (.ireturn, 1) := by decide +kernel
theorem dJ7_copyOf_59c91_0 : decode cJ7_copyOf_59c91 0 = .ok (.iload_n 1, 1) := by decide +kernel
theorem dJ7_copyOf_59c91_1 : decode cJ7_copyOf_59c91 1 = .ok (.aload_n 0, 1) := by decide +kernel
theorem dJ7_copyOf_59c91_2 : decode cJ7_copyOf_59c91 2 = .ok (.arraylength, 1) := by decide +kernel
theorem dJ7_copyOf_59c91_3 : decode cJ7_copyOf_59c91 3 = .ok (.if_icmp .ne 11, 3) := by decide +kernel
theorem dJ7_copyOf_59c91_6 : decode cJ7_copyOf_59c91 6 = .ok (.aload_n 0, 1) := by decide +kernel
theorem dJ7_copyOf_59c91_7 : decode cJ7_copyOf_59c91 7 = .ok (.invokevirtual 316, 3) := by decide +kernel
theorem dJ7_copyOf_59c91_10 : decode cJ7_copyOf_59c91 10 = .ok (.checkcast 317, 3) := by decide +kernel
theorem dJ7_copyOf_59c91_13 : decode cJ7_copyOf_59c91 13 = .ok (.areturn, 1) := by decide +kernel
theorem dJ7_copyOf_59c91_14 : decode cJ7_copyOf_59c91 14 = .ok (.iload_n 1, 1) := by decide +kernel
theorem dJ7_copyOf_59c91_15 : decode cJ7_copyOf_59c91 15 = .ok (.newarray .int, 2) := by decide +kernel
theorem dJ7_copyOf_59c91_17 : decode cJ7_copyOf_59c91 17 = .ok (.astore_n 2, 1) := by decide +kernel
theorem dJ7_copyOf_59c91_18 : decode cJ7_copyOf_59c91 18 = .ok (.aload_n 0, 1) := by decide +kernel
theorem dJ7_copyOf_59c91_19 : decode cJ7_copyOf_59c91 19 = .ok (.iconst 0, 1) := by decide +kernel
theorem dJ7_copyOf_59c91_20 : decode cJ7_copyOf_59c91 20 = .ok (.aload_n 2, 1) := by decide +kernel
theorem dJ7_copyOf_59c91_21 : decode cJ7_copyOf_59c91 21 = .ok (.iconst 0, 1) := by decide +kernel
theorem dJ7_copyOf_59c91_22 : decode cJ7_copyOf_59c91 22 = .ok (.aload_n 0, 1) := by decide +kernel
theorem dJ7_copyOf_59c91_23 : decode cJ7_copyOf_59c91 23 = .ok (.arraylength, 1) := by decide +kernel
theorem dJ7_copyOf_59c91_24 : decode cJ7_copyOf_59c91 24 = .ok (.iload_n 1, 1) := by decide +kernel
theorem dJ7_copyOf_59c91_25 : decode cJ7_copyOf_59c91 25 = .ok (.invokestatic 304, 3) := by decide +kernel
theorem dJ7_copyOf_59c91_28 : decode cJ7_copyOf_59c91 28 = .ok (.invokestatic 150, 3) := by decide +kernel
theorem dJ7_copyOf_59c91_31 : decode cJ7_copyOf_59c91 31 = .ok (.aload_n 2, 1) := by decide +kernel
theorem dJ7_copyOf_59c91_32 : decode cJ7_copyOf_59c91 32 = .ok (.areturn, 1) := by decide +kernel
theorem dX0_makeRoom_0 : decode cX0_makeRoom 0 = .ok (.aload_n 0, 1) := by decide +kernel
theorem dX0_makeRoom_1 : decode cX0_makeRoom 1 = .ok (.aload_n 0, 1) := by decide +kernel
theorem dX0_makeRoom_2 : decode cX0_makeRoom 2 = .ok (.getfield 9, 3) := by decide +kernel
theorem dX0_makeRoom_5 : decode cX0_makeRoom 5 = .ok (.iload_n 1, 1) := by decide +kernel
theorem dX0_makeRoom_6 : decode cX0_makeRoom 6 = .ok (.invokestatic 45, 3) := by decide +kernel
theorem dX0_makeRoom_9 : decode cX0_makeRoom 9 = .ok (.putfield 9, 3) := by decide +kernel
theorem dX0_makeRoom_12 : decode cX0_makeRoom 12 = .ok (.aload_n 0, 1) := by decide +kernel
theorem dX0_makeRoom_13 : decode cX0_makeRoom 13 = .ok (.aload_n 0, 1) := by decide +kernel
theorem dX0_makeRoom_14 : decode cX0_makeRoom 14 = .ok (.getfield 15, 3) := by decide +kernel
theorem dX0_makeRoom_17 : decode cX0_makeRoom 17 = .ok (.iload_n 1, 1) := by decide +kernel
theorem dX0_makeRoom_18 : decode cX0_makeRoom 18 = .ok (.iconst 1, 1) := by decide +kernel
theorem dX0_makeRoom_19 : decode cX0_makeRoom 19 = .ok (.iadd, 1) := by decide +kernel
theorem dX0_makeRoom_20 : decode cX0_makeRoom 20 = .ok (.invokestatic 45, 3) := by decide +kernel
theorem dX0_makeRoom_23 : decode cX0_makeRoom 23 = .ok (.putfield 15, 3) := by decide +kernel
theorem dX0_makeRoom_26 : decode cX0_makeRoom 26 = .ok (.return_, 1) := by decide +kernel
theorem dX0_makeMoveRoom_0 : decode cX0_makeMoveRoom 0 = .ok (.aload_n 0, 1) := by decide +kernel
theorem dX0_makeMoveRoom_1 : decode cX0_makeMoveRoom 1 = .ok (.aload_n 0, 1) := by decide +kernel
theorem dX0_makeMoveRoom_2 : decode cX0_makeMoveRoom 2 = .ok (.getfield 18, 3) := by decide +kernel
theorem dX0_makeMoveRoom_5 : decode cX0_makeMoveRoom 5 = .ok (.iload_n 1, 1) := by decide +kernel
theorem dX0_makeMoveRoom_6 : decode cX0_makeMoveRoom 6 = .ok (.invokestatic 45, 3) := by decide +kernel
theorem dX0_makeMoveRoom_9 : decode cX0_makeMoveRoom 9 = .ok (.putfield 18, 3) := by decide +kernel
theorem dX0_makeMoveRoom_12 : decode cX0_makeMoveRoom 12 = .ok (.return_, 1) := by decide +kernel
theorem dX0_edgeFrom_0 : decode cX0_edgeFrom 0 = .ok (.aload_n 0, 1) := by decide +kernel
theorem dX0_edgeFrom_1 : decode cX0_edgeFrom 1 = .ok (.getfield 15, 3) := by decide +kernel
theorem dX0_edgeFrom_4 : decode cX0_edgeFrom 4 = .ok (.iload_n 1, 1) := by decide +kernel
theorem dX0_edgeFrom_5 : decode cX0_edgeFrom 5 = .ok (.iaload, 1) := by decide +kernel
theorem dX0_edgeFrom_6 : decode cX0_edgeFrom 6 = .ok (.istore_n 3, 1) := by decide +kernel
theorem dX0_edgeFrom_7 : decode cX0_edgeFrom 7 = .ok (.iload_n 3, 1) := by decide +kernel
theorem dX0_edgeFrom_8 : decode cX0_edgeFrom 8 = .ok (.aload_n 0, 1) := by decide +kernel
theorem dX0_edgeFrom_9 : decode cX0_edgeFrom 9 = .ok (.getfield 15, 3) := by decide +kernel
theorem dX0_edgeFrom_12 : decode cX0_edgeFrom 12 = .ok (.iload_n 1, 1) := by decide +kernel
theorem dX0_edgeFrom_13 : decode cX0_edgeFrom 13 = .ok (.iconst 1, 1) := by decide +kernel
theorem dX0_edgeFrom_14 : decode cX0_edgeFrom 14 = .ok (.iadd, 1) := by decide +kernel
theorem dX0_edgeFrom_15 : decode cX0_edgeFrom 15 = .ok (.iaload, 1) := by decide +kernel
theorem dX0_edgeFrom_16 : decode cX0_edgeFrom 16 = .ok (.if_icmp .ge 29, 3) := by decide +kernel
theorem dX0_edgeFrom_19 : decode cX0_edgeFrom 19 = .ok (.aload_n 0, 1) := by decide +kernel
theorem dX0_edgeFrom_20 : decode cX0_edgeFrom 20 = .ok (.getfield 18, 3) := by decide +kernel
theorem dX0_edgeFrom_23 : decode cX0_edgeFrom 23 = .ok (.iload_n 3, 1) := by decide +kernel
theorem dX0_edgeFrom_24 : decode cX0_edgeFrom 24 = .ok (.iaload, 1) := by decide +kernel
theorem dX0_edgeFrom_25 : decode cX0_edgeFrom 25 = .ok (.invokestatic 51, 3) := by decide +kernel
theorem dX0_edgeFrom_28 : decode cX0_edgeFrom 28 = .ok (.iload_n 2, 1) := by decide +kernel
theorem dX0_edgeFrom_29 : decode cX0_edgeFrom 29 = .ok (.if_icmp .ne 10, 3) := by decide +kernel
theorem dX0_edgeFrom_32 : decode cX0_edgeFrom 32 = .ok (.aload_n 0, 1) := by decide +kernel
theorem dX0_edgeFrom_33 : decode cX0_edgeFrom 33 = .ok (.getfield 18, 3) := by decide +kernel
theorem dX0_edgeFrom_36 : decode cX0_edgeFrom 36 = .ok (.iload_n 3, 1) := by decide +kernel
theorem dX0_edgeFrom_37 : decode cX0_edgeFrom 37 = .ok (.iaload, 1) := by decide +kernel
theorem dX0_edgeFrom_38 : decode cX0_edgeFrom 38 = .ok (.ireturn, 1) := by decide +kernel
theorem dX0_edgeFrom_39 : decode cX0_edgeFrom 39 = .ok (.iinc 3 1, 3) := by decide +kernel
theorem dX0_edgeFrom_42 : decode cX0_edgeFrom 42 = .ok (.goto (-35), 3) := by decide +kernel
theorem dX0_edgeFrom_45 : decode cX0_edgeFrom 45 = .ok (.iconst (-1), 1) := by decide +kernel
theorem dX0_edgeFrom_46 : decode cX0_edgeFrom 46 = .ok (.ireturn, 1) := by decide +kernel
theorem dX3_waysOf_0 : decode cX3_waysOf 0 = .ok (.iload_n 2, 1) := by decide +kernel
theorem dX3_waysOf_1 : decode cX3_waysOf 1 = .ok (.ifCond .lt 9, 3) := by decide +kernel
theorem dX3_waysOf_4 : decode cX3_waysOf 4 = .ok (.iload_n 2, 1) := by decide +kernel
theorem dX3_waysOf_5 : decode cX3_waysOf 5 = .ok (.bipush 12, 2) := by decide +kernel
theorem dX3_waysOf_7 : decode cX3_waysOf 7 = .ok (.if_icmp .le 5, 3) := by decide +kernel
theorem dX3_waysOf_10 : decode cX3_waysOf 10 = .ok (.lconst 0, 1) := by decide +kernel
theorem dX3_waysOf_11 : decode cX3_waysOf 11 = .ok (.lreturn, 1) := by decide +kernel
theorem dX3_waysOf_12 : decode cX3_waysOf 12 = .ok (.aload_n 0, 1) := by decide +kernel
theorem dX3_waysOf_13 : decode cX3_waysOf 13 = .ok (.getfield 11, 3) := by decide +kernel
theorem dX3_waysOf_16 : decode cX3_waysOf 16 = .ok (.iload_n 1, 1) := by decide +kernel
theorem dX3_waysOf_17 : decode cX3_waysOf 17 = .ok (.bipush 13, 2) := by decide +kernel
theorem dX3_waysOf_19 : decode cX3_waysOf 19 = .ok (.imul, 1) := by decide +kernel
theorem dX3_waysOf_20 : decode cX3_waysOf 20 = .ok (.iload_n 2, 1) := by decide +kernel
theorem dX3_waysOf_21 : decode cX3_waysOf 21 = .ok (.iadd, 1) := by decide +kernel
theorem dX3_waysOf_22 : decode cX3_waysOf 22 = .ok (.laload, 1) := by decide +kernel
theorem dX3_waysOf_23 : decode cX3_waysOf 23 = .ok (.lreturn, 1) := by decide +kernel
theorem dX3_boardsUpTo_0 : decode cX3_boardsUpTo 0 = .ok (.aload_n 0, 1) := by decide +kernel
theorem dX3_boardsUpTo_1 : decode cX3_boardsUpTo 1 = .ok (.aload_n 0, 1) := by decide +kernel
theorem dX3_boardsUpTo_2 : decode cX3_boardsUpTo 2 = .ok (.getfield 19, 3) := by decide +kernel
theorem dX3_boardsUpTo_5 : decode cX3_boardsUpTo 5 = .ok (.getfield 23, 3) := by decide +kernel
theorem dX3_boardsUpTo_8 : decode cX3_boardsUpTo 8 = .ok (.iconst 1, 1) := by decide +kernel
theorem dX3_boardsUpTo_9 : decode cX3_boardsUpTo 9 = .ok (.iadd, 1) := by decide +kernel
theorem dX3_boardsUpTo_10 : decode cX3_boardsUpTo 10 = .ok (.iload_n 1, 1) := by decide +kernel
theorem dX3_boardsUpTo_11 : decode cX3_boardsUpTo 11 = .ok (.invokevirtual 29, 3) := by decide +kernel
theorem dX3_boardsUpTo_14 : decode cX3_boardsUpTo 14 = .ok (.lreturn, 1) := by decide +kernel
theorem dJ7_fill_53178_0 : decode cJ7_fill_53178 0 = .ok (.iconst 0, 1) := by decide +kernel
theorem dJ7_fill_53178_1 : decode cJ7_fill_53178 1 = .ok (.istore_n 2, 1) := by decide +kernel
theorem dJ7_fill_53178_2 : decode cJ7_fill_53178 2 = .ok (.aload_n 0, 1) := by decide +kernel
theorem dJ7_fill_53178_3 : decode cJ7_fill_53178 3 = .ok (.arraylength, 1) := by decide +kernel
theorem dJ7_fill_53178_4 : decode cJ7_fill_53178 4 = .ok (.istore_n 3, 1) := by decide +kernel
theorem dJ7_fill_53178_5 : decode cJ7_fill_53178 5 = .ok (.iload_n 2, 1) := by decide +kernel
theorem dJ7_fill_53178_6 : decode cJ7_fill_53178 6 = .ok (.iload_n 3, 1) := by decide +kernel
theorem dJ7_fill_53178_7 : decode cJ7_fill_53178 7 = .ok (.if_icmp .ge 13, 3) := by decide +kernel
theorem dJ7_fill_53178_10 : decode cJ7_fill_53178 10 = .ok (.aload_n 0, 1) := by decide +kernel
theorem dJ7_fill_53178_11 : decode cJ7_fill_53178 11 = .ok (.iload_n 2, 1) := by decide +kernel
theorem dJ7_fill_53178_12 : decode cJ7_fill_53178 12 = .ok (.iload_n 1, 1) := by decide +kernel
theorem dJ7_fill_53178_13 : decode cJ7_fill_53178 13 = .ok (.iastore, 1) := by decide +kernel
theorem dJ7_fill_53178_14 : decode cJ7_fill_53178 14 = .ok (.iinc 2 1, 3) := by decide +kernel
theorem dJ7_fill_53178_17 : decode cJ7_fill_53178 17 = .ok (.goto (-12), 3) := by decide +kernel
theorem dJ7_fill_53178_20 : decode cJ7_fill_53178 20 = .ok (.return_, 1) := by decide +kernel
theorem dX3_fill_0 : decode cX3_fill 0 = .ok (.iconst 0, 1) := by decide +kernel
theorem dX3_fill_1 : decode cX3_fill 1 = .ok (.istore 4, 2) := by decide +kernel
theorem dX3_fill_3 : decode cX3_fill 3 = .ok (.iload 4, 2) := by decide +kernel
theorem dX3_fill_5 : decode cX3_fill 5 = .ok (.bipush 12, 2) := by decide +kernel
theorem dX3_fill_7 : decode cX3_fill 7 = .ok (.if_icmp .ge 20, 3) := by decide +kernel
theorem dX3_fill_10 : decode cX3_fill 10 = .ok (.aload_n 0, 1) := by decide +kernel
theorem dX3_fill_11 : decode cX3_fill 11 = .ok (.iload 4, 2) := by decide +kernel
theorem dX3_fill_13 : decode cX3_fill 13 = .ok (.invokevirtual 37, 3) := by decide +kernel
theorem dX3_fill_16 : decode cX3_fill 16 = .ok (.lload_n 2, 1) := by decide +kernel
theorem dX3_fill_17 : decode cX3_fill 17 = .ok (.lcmp, 1) := by decide +kernel
theorem dX3_fill_18 : decode cX3_fill 18 = .ok (.ifCond .gt 9, 3) := by decide +kernel
theorem dX3_fill_21 : decode cX3_fill 21 = .ok (.iinc 4 1, 3) := by decide +kernel
theorem dX3_fill_24 : decode cX3_fill 24 = .ok (.goto (-21), 3) := by decide +kernel
theorem dX3_fill_27 : decode cX3_fill 27 = .ok (.lload_n 2, 1) := by decide +kernel
theorem dX3_fill_28 : decode cX3_fill 28 = .ok (.aload_n 0, 1) := by decide +kernel
theorem dX3_fill_29 : decode cX3_fill 29 = .ok (.iload 4, 2) := by decide +kernel
theorem dX3_fill_31 : decode cX3_fill 31 = .ok (.iconst 1, 1) := by decide +kernel
theorem dX3_fill_32 : decode cX3_fill 32 = .ok (.isub, 1) := by decide +kernel
theorem dX3_fill_33 : decode cX3_fill 33 = .ok (.invokevirtual 37, 3) := by decide +kernel
theorem dX3_fill_36 : decode cX3_fill 36 = .ok (.lsub, 1) := by decide +kernel
theorem dX3_fill_37 : decode cX3_fill 37 = .ok (.lstore 5, 2) := by decide +kernel
theorem dX3_fill_39 : decode cX3_fill 39 = .ok (.aload_n 1, 1) := by decide +kernel
theorem dX3_fill_40 : decode cX3_fill 40 = .ok (.iconst 0, 1) := by decide +kernel
theorem dX3_fill_41 : decode cX3_fill 41 = .ok (.invokestatic 48, 3) := by decide +kernel
theorem dX3_fill_44 : decode cX3_fill 44 = .ok (.iconst 0, 1) := by decide +kernel
theorem dX3_fill_45 : decode cX3_fill 45 = .ok (.istore 7, 2) := by decide +kernel
theorem dX3_fill_47 : decode cX3_fill 47 = .ok (.iload 7, 2) := by decide +kernel
theorem dX3_fill_49 : decode cX3_fill 49 = .ok (.aload_n 0, 1) := by decide +kernel
theorem dX3_fill_50 : decode cX3_fill 50 = .ok (.getfield 19, 3) := by decide +kernel
theorem dX3_fill_53 : decode cX3_fill 53 = .ok (.getfield 23, 3) := by decide +kernel
theorem dX3_fill_56 : decode cX3_fill 56 = .ok (.if_icmp .ge 93, 3) := by decide +kernel
theorem dX3_fill_59 : decode cX3_fill 59 = .ok (.aload_n 0, 1) := by decide +kernel
theorem dX3_fill_60 : decode cX3_fill 60 = .ok (.getfield 19, 3) := by decide +kernel
theorem dX3_fill_63 : decode cX3_fill 63 = .ok (.getfield 23, 3) := by decide +kernel
theorem dX3_fill_66 : decode cX3_fill 66 = .ok (.iconst 1, 1) := by decide +kernel
theorem dX3_fill_67 : decode cX3_fill 67 = .ok (.isub, 1) := by decide +kernel
theorem dX3_fill_68 : decode cX3_fill 68 = .ok (.iload 7, 2) := by decide +kernel
theorem dX3_fill_70 : decode cX3_fill 70 = .ok (.isub, 1) := by decide +kernel
theorem dX3_fill_71 : decode cX3_fill 71 = .ok (.istore 8, 2) := by decide +kernel
theorem dX3_fill_73 : decode cX3_fill 73 = .ok (.iconst 0, 1) := by decide +kernel
theorem dX3_fill_74 : decode cX3_fill 74 = .ok (.istore 9, 2) := by decide +kernel
theorem dX3_fill_76 : decode cX3_fill 76 = .ok (.iload 9, 2) := by decide +kernel
theorem dX3_fill_78 : decode cX3_fill 78 = .ok (.iload 4, 2) := by decide +kernel
theorem dX3_fill_80 : decode cX3_fill 80 = .ok (.if_icmp .ge 42, 3) := by decide +kernel
theorem dX3_fill_83 : decode cX3_fill 83 = .ok (.lload 5, 2) := by decide +kernel
theorem dX3_fill_85 : decode cX3_fill 85 = .ok (.aload_n 0, 1) := by decide +kernel
theorem dX3_fill_86 : decode cX3_fill 86 = .ok (.iload 8, 2) := by decide +kernel
theorem dX3_fill_88 : decode cX3_fill 88 = .ok (.iload 4, 2) := by decide +kernel
theorem dX3_fill_90 : decode cX3_fill 90 = .ok (.iload 9, 2) := by decide +kernel
theorem dX3_fill_92 : decode cX3_fill 92 = .ok (.isub, 1) := by decide +kernel
theorem dX3_fill_93 : decode cX3_fill 93 = .ok (.invokevirtual 29, 3) := by decide +kernel
theorem dX3_fill_96 : decode cX3_fill 96 = .ok (.lcmp, 1) := by decide +kernel
theorem dX3_fill_97 : decode cX3_fill 97 = .ok (.ifCond .lt 25, 3) := by decide +kernel
theorem dX3_fill_100 : decode cX3_fill 100 = .ok (.lload 5, 2) := by decide +kernel
theorem dX3_fill_102 : decode cX3_fill 102 = .ok (.aload_n 0, 1) := by decide +kernel
theorem dX3_fill_103 : decode cX3_fill 103 = .ok (.iload 8, 2) := by decide +kernel
theorem dX3_fill_105 : decode cX3_fill 105 = .ok (.iload 4, 2) := by decide +kernel
theorem dX3_fill_107 : decode cX3_fill 107 = .ok (.iload 9, 2) := by decide +kernel
theorem dX3_fill_109 : decode cX3_fill 109 = .ok (.isub, 1) := by decide +kernel
theorem dX3_fill_110 : decode cX3_fill 110 = .ok (.invokevirtual 29, 3) := by decide +kernel
theorem dX3_fill_113 : decode cX3_fill 113 = .ok (.lsub, 1) := by decide +kernel
theorem dX3_fill_114 : decode cX3_fill 114 = .ok (.lstore 5, 2) := by decide +kernel
theorem dX3_fill_116 : decode cX3_fill 116 = .ok (.iinc 9 1, 3) := by decide +kernel
theorem dX3_fill_119 : decode cX3_fill 119 = .ok (.goto (-43), 3) := by decide +kernel
theorem dX3_fill_122 : decode cX3_fill 122 = .ok (.aload_n 1, 1) := by decide +kernel
theorem dX3_fill_123 : decode cX3_fill 123 = .ok (.aload_n 0, 1) := by decide +kernel
theorem dX3_fill_124 : decode cX3_fill 124 = .ok (.getfield 19, 3) := by decide +kernel
theorem dX3_fill_127 : decode cX3_fill 127 = .ok (.getfield 41, 3) := by decide +kernel
theorem dX3_fill_130 : decode cX3_fill 130 = .ok (.iload 7, 2) := by decide +kernel
theorem dX3_fill_132 : decode cX3_fill 132 = .ok (.iaload, 1) := by decide +kernel
theorem dX3_fill_133 : decode cX3_fill 133 = .ok (.iload 9, 2) := by decide +kernel
theorem dX3_fill_135 : decode cX3_fill 135 = .ok (.iastore, 1) := by decide +kernel
theorem dX3_fill_136 : decode cX3_fill 136 = .ok (.iload 4, 2) := by decide +kernel
theorem dX3_fill_138 : decode cX3_fill 138 = .ok (.iload 9, 2) := by decide +kernel
theorem dX3_fill_140 : decode cX3_fill 140 = .ok (.isub, 1) := by decide +kernel
theorem dX3_fill_141 : decode cX3_fill 141 = .ok (.istore 4, 2) := by decide +kernel
theorem dX3_fill_143 : decode cX3_fill 143 = .ok (.iinc 7 1, 3) := by decide +kernel
theorem dX3_fill_146 : decode cX3_fill 146 = .ok (.goto (-99), 3) := by decide +kernel
theorem dX3_fill_149 : decode cX3_fill 149 = .ok (.return_, 1) := by decide +kernel
theorem dX10_sow_0 : decode cX10_sow 0 = .ok (.aload_n 0, 1) := by decide +kernel
theorem dX10_sow_1 : decode cX10_sow 1 = .ok (.iload_n 1, 1) := by decide +kernel
theorem dX10_sow_2 : decode cX10_sow 2 = .ok (.iaload, 1) := by decide +kernel
theorem dX10_sow_3 : decode cX10_sow 3 = .ok (.istore 4, 2) := by decide +kernel
theorem dX10_sow_5 : decode cX10_sow 5 = .ok (.iload_n 1, 1) := by decide +kernel
theorem dX10_sow_6 : decode cX10_sow 6 = .ok (.istore 5, 2) := by decide +kernel
theorem dX10_sow_8 : decode cX10_sow 8 = .ok (.aload_n 0, 1) := by decide +kernel
theorem dX10_sow_9 : decode cX10_sow 9 = .ok (.iload_n 1, 1) := by decide +kernel
theorem dX10_sow_10 : decode cX10_sow 10 = .ok (.iconst 0, 1) := by decide +kernel
theorem dX10_sow_11 : decode cX10_sow 11 = .ok (.iastore, 1) := by decide +kernel
theorem dX10_sow_12 : decode cX10_sow 12 = .ok (.iload_n 3, 1) := by decide +kernel
theorem dX10_sow_13 : decode cX10_sow 13 = .ok (.ifCond .le 54, 3) := by decide +kernel
theorem dX10_sow_16 : decode cX10_sow 16 = .ok (.iload 4, 2) := by decide +kernel
theorem dX10_sow_18 : decode cX10_sow 18 = .ok (.iload_n 3, 1) := by decide +kernel
theorem dX10_sow_19 : decode cX10_sow 19 = .ok (.if_icmp .lt 48, 3) := by decide +kernel
theorem dX10_sow_22 : decode cX10_sow 22 = .ok (.iload 4, 2) := by decide +kernel
theorem dX10_sow_24 : decode cX10_sow 24 = .ok (.iload_n 3, 1) := by decide +kernel
theorem dX10_sow_25 : decode cX10_sow 25 = .ok (.idiv, 1) := by decide +kernel
theorem dX10_sow_26 : decode cX10_sow 26 = .ok (.istore 6, 2) := by decide +kernel
theorem dX10_sow_28 : decode cX10_sow 28 = .ok (.iconst 0, 1) := by decide +kernel
theorem dX10_sow_29 : decode cX10_sow 29 = .ok (.istore 7, 2) := by decide +kernel
theorem dX10_sow_31 : decode cX10_sow 31 = .ok (.iload 7, 2) := by decide +kernel
theorem dX10_sow_33 : decode cX10_sow 33 = .ok (.iload_n 3, 1) := by decide +kernel
theorem dX10_sow_34 : decode cX10_sow 34 = .ok (.if_icmp .ge 24, 3) := by decide +kernel
theorem dX10_sow_37 : decode cX10_sow 37 = .ok (.aload_n 2, 1) := by decide +kernel
theorem dX10_sow_38 : decode cX10_sow 38 = .ok (.iload 5, 2) := by decide +kernel
theorem dX10_sow_40 : decode cX10_sow 40 = .ok (.iaload, 1) := by decide +kernel
theorem dX10_sow_41 : decode cX10_sow 41 = .ok (.istore 5, 2) := by decide +kernel
theorem dX10_sow_43 : decode cX10_sow 43 = .ok (.aload_n 0, 1) := by decide +kernel
theorem dX10_sow_44 : decode cX10_sow 44 = .ok (.iload 5, 2) := by decide +kernel
theorem dX10_sow_46 : decode cX10_sow 46 = .ok (.dup2, 1) := by decide +kernel
theorem dX10_sow_47 : decode cX10_sow 47 = .ok (.iaload, 1) := by decide +kernel
theorem dX10_sow_48 : decode cX10_sow 48 = .ok (.iload 6, 2) := by decide +kernel
theorem dX10_sow_50 : decode cX10_sow 50 = .ok (.iadd, 1) := by decide +kernel
theorem dX10_sow_51 : decode cX10_sow 51 = .ok (.iastore, 1) := by decide +kernel
theorem dX10_sow_52 : decode cX10_sow 52 = .ok (.iinc 7 1, 3) := by decide +kernel
theorem dX10_sow_55 : decode cX10_sow 55 = .ok (.goto (-24), 3) := by decide +kernel
theorem dX10_sow_58 : decode cX10_sow 58 = .ok (.iload 4, 2) := by decide +kernel
theorem dX10_sow_60 : decode cX10_sow 60 = .ok (.iload 6, 2) := by decide +kernel
theorem dX10_sow_62 : decode cX10_sow 62 = .ok (.iload_n 3, 1) := by decide +kernel
theorem dX10_sow_63 : decode cX10_sow 63 = .ok (.imul, 1) := by decide +kernel
theorem dX10_sow_64 : decode cX10_sow 64 = .ok (.isub, 1) := by decide +kernel
theorem dX10_sow_65 : decode cX10_sow 65 = .ok (.istore 4, 2) := by decide +kernel
theorem dX10_sow_67 : decode cX10_sow 67 = .ok (.iconst 0, 1) := by decide +kernel
theorem dX10_sow_68 : decode cX10_sow 68 = .ok (.istore 6, 2) := by decide +kernel
theorem dX10_sow_70 : decode cX10_sow 70 = .ok (.iload 6, 2) := by decide +kernel
theorem dX10_sow_72 : decode cX10_sow 72 = .ok (.iload 4, 2) := by decide +kernel
theorem dX10_sow_74 : decode cX10_sow 74 = .ok (.if_icmp .ge 23, 3) := by decide +kernel
theorem dX10_sow_77 : decode cX10_sow 77 = .ok (.aload_n 2, 1) := by decide +kernel
theorem dX10_sow_78 : decode cX10_sow 78 = .ok (.iload 5, 2) := by decide +kernel
theorem dX10_sow_80 : decode cX10_sow 80 = .ok (.iaload, 1) := by decide +kernel
theorem dX10_sow_81 : decode cX10_sow 81 = .ok (.istore 5, 2) := by decide +kernel
theorem dX10_sow_83 : decode cX10_sow 83 = .ok (.aload_n 0, 1) := by decide +kernel
theorem dX10_sow_84 : decode cX10_sow 84 = .ok (.iload 5, 2) := by decide +kernel
theorem dX10_sow_86 : decode cX10_sow 86 = .ok (.dup2, 1) := by decide +kernel
theorem dX10_sow_87 : decode cX10_sow 87 = .ok (.iaload, 1) := by decide +kernel
theorem dX10_sow_88 : decode cX10_sow 88 = .ok (.iconst 1, 1) := by decide +kernel
theorem dX10_sow_89 : decode cX10_sow 89 = .ok (.iadd, 1) := by decide +kernel
theorem dX10_sow_90 : decode cX10_sow 90 = .ok (.iastore, 1) := by decide +kernel
theorem dX10_sow_91 : decode cX10_sow 91 = .ok (.iinc 6 1, 3) := by decide +kernel
theorem dX10_sow_94 : decode cX10_sow 94 = .ok (.goto (-24), 3) := by decide +kernel
theorem dX10_sow_97 : decode cX10_sow 97 = .ok (.iload 5, 2) := by decide +kernel
theorem dX10_sow_99 : decode cX10_sow 99 = .ok (.ireturn, 1) := by decide +kernel
theorem dX10_takeColumn_0 : decode cX10_takeColumn 0 = .ok (.iconst 0, 1) := by decide +kernel
theorem dX10_takeColumn_1 : decode cX10_takeColumn 1 = .ok (.istore 4, 2) := by decide +kernel
theorem dX10_takeColumn_3 : decode cX10_takeColumn 3 = .ok (.aload_n 0, 1) := by decide +kernel
theorem dX10_takeColumn_4 : decode cX10_takeColumn 4 = .ok (.getfield 27, 3) := by decide +kernel
theorem dX10_takeColumn_7 : decode cX10_takeColumn 7 = .ok (.getfield 118, 3) := by decide +kernel
theorem dX10_takeColumn_10 : decode cX10_takeColumn 10 = .ok (.iconst 1, 1) := by decide +kernel
theorem dX10_takeColumn_11 : decode cX10_takeColumn 11 = .ok (.iload_n 2, 1) := by decide +kernel
theorem dX10_takeColumn_12 : decode cX10_takeColumn 12 = .ok (.isub, 1) := by decide +kernel
theorem dX10_takeColumn_13 : decode cX10_takeColumn 13 = .ok (.iaload, 1) := by decide +kernel
theorem dX10_takeColumn_14 : decode cX10_takeColumn 14 = .ok (.istore 5, 2) := by decide +kernel
theorem dX10_takeColumn_16 : decode cX10_takeColumn 16 = .ok (.iload 5, 2) := by decide +kernel
theorem dX10_takeColumn_18 : decode cX10_takeColumn 18 = .ok (.aload_n 0, 1) := by decide +kernel
theorem dX10_takeColumn_19 : decode cX10_takeColumn 19 = .ok (.getfield 27, 3) := by decide +kernel
theorem dX10_takeColumn_22 : decode cX10_takeColumn 22 = .ok (.getfield 121, 3) := by decide +kernel
theorem dX10_takeColumn_25 : decode cX10_takeColumn 25 = .ok (.iconst 1, 1) := by decide +kernel
theorem dX10_takeColumn_26 : decode cX10_takeColumn 26 = .ok (.iload_n 2, 1) := by decide +kernel
theorem dX10_takeColumn_27 : decode cX10_takeColumn 27 = .ok (.isub, 1) := by decide +kernel
theorem dX10_takeColumn_28 : decode cX10_takeColumn 28 = .ok (.iaload, 1) := by decide +kernel
theorem dX10_takeColumn_29 : decode cX10_takeColumn 29 = .ok (.if_icmp .ge 45, 3) := by decide +kernel
theorem dX10_takeColumn_32 : decode cX10_takeColumn 32 = .ok (.aload_n 0, 1) := by decide +kernel
theorem dX10_takeColumn_33 : decode cX10_takeColumn 33 = .ok (.getfield 27, 3) := by decide +kernel
theorem dX10_takeColumn_36 : decode cX10_takeColumn 36 = .ok (.getfield 124, 3) := by decide +kernel
theorem dX10_takeColumn_39 : decode cX10_takeColumn 39 = .ok (.iload 5, 2) := by decide +kernel
theorem dX10_takeColumn_41 : decode cX10_takeColumn 41 = .ok (.iaload, 1) := by decide +kernel
theorem dX10_takeColumn_42 : decode cX10_takeColumn 42 = .ok (.aload_n 0, 1) := by decide +kernel
theorem dX10_takeColumn_43 : decode cX10_takeColumn 43 = .ok (.getfield 27, 3) := by decide +kernel
theorem dX10_takeColumn_46 : decode cX10_takeColumn 46 = .ok (.getfield 124, 3) := by decide +kernel
theorem dX10_takeColumn_49 : decode cX10_takeColumn 49 = .ok (.iload_n 3, 1) := by decide +kernel
theorem dX10_takeColumn_50 : decode cX10_takeColumn 50 = .ok (.iaload, 1) := by decide +kernel
theorem dX10_takeColumn_51 : decode cX10_takeColumn 51 = .ok (.if_icmp .ne 17, 3) := by decide +kernel
theorem dX10_takeColumn_54 : decode cX10_takeColumn 54 = .ok (.iload 4, 2) := by decide +kernel
theorem dX10_takeColumn_56 : decode cX10_takeColumn 56 = .ok (.aload_n 1, 1) := by decide +kernel
theorem dX10_takeColumn_57 : decode cX10_takeColumn 57 = .ok (.iload 5, 2) := by decide +kernel
theorem dX10_takeColumn_59 : decode cX10_takeColumn 59 = .ok (.iaload, 1) := by decide +kernel
theorem dX10_takeColumn_60 : decode cX10_takeColumn 60 = .ok (.iadd, 1) := by decide +kernel
theorem dX10_takeColumn_61 : decode cX10_takeColumn 61 = .ok (.istore 4, 2) := by decide +kernel
theorem dX10_takeColumn_63 : decode cX10_takeColumn 63 = .ok (.aload_n 1, 1) := by decide +kernel
theorem dX10_takeColumn_64 : decode cX10_takeColumn 64 = .ok (.iload 5, 2) := by decide +kernel
theorem dX10_takeColumn_66 : decode cX10_takeColumn 66 = .ok (.iconst 0, 1) := by decide +kernel
theorem dX10_takeColumn_67 : decode cX10_takeColumn 67 = .ok (.iastore, 1) := by decide +kernel
theorem dX10_takeColumn_68 : decode cX10_takeColumn 68 = .ok (.iinc 5 1, 3) := by decide +kernel
theorem dX10_takeColumn_71 : decode cX10_takeColumn 71 = .ok (.goto (-55), 3) := by decide +kernel
theorem dX10_takeColumn_74 : decode cX10_takeColumn 74 = .ok (.iload 4, 2) := by decide +kernel
theorem dX10_takeColumn_76 : decode cX10_takeColumn 76 = .ok (.ireturn, 1) := by decide +kernel
theorem dX10_takeChain_0 : decode cX10_takeChain 0 = .ok (.iconst 0, 1) := by decide +kernel
theorem dX10_takeChain_1 : decode cX10_takeChain 1 = .ok (.istore 4, 2) := by decide +kernel
theorem dX10_takeChain_3 : decode cX10_takeChain 3 = .ok (.iload_n 3, 1) := by decide +kernel
theorem dX10_takeChain_4 : decode cX10_takeChain 4 = .ok (.istore 5, 2) := by decide +kernel
theorem dX10_takeChain_6 : decode cX10_takeChain 6 = .ok (.iconst 0, 1) := by decide +kernel
theorem dX10_takeChain_7 : decode cX10_takeChain 7 = .ok (.istore 6, 2) := by decide +kernel
theorem dX10_takeChain_9 : decode cX10_takeChain 9 = .ok (.iload 6, 2) := by decide +kernel
theorem dX10_takeChain_11 : decode cX10_takeChain 11 = .ok (.aload_n 0, 1) := by decide +kernel
theorem dX10_takeChain_12 : decode cX10_takeChain 12 = .ok (.getfield 27, 3) := by decide +kernel
theorem dX10_takeChain_15 : decode cX10_takeChain 15 = .ok (.getfield 99, 3) := by decide +kernel
theorem dX10_takeChain_18 : decode cX10_takeChain 18 = .ok (.if_icmp .ge 80, 3) := by decide +kernel
theorem dX10_takeChain_21 : decode cX10_takeChain 21 = .ok (.aload_n 0, 1) := by decide +kernel
theorem dX10_takeChain_22 : decode cX10_takeChain 22 = .ok (.getfield 27, 3) := by decide +kernel
theorem dX10_takeChain_25 : decode cX10_takeChain 25 = .ok (.getfield 58, 3) := by decide +kernel
theorem dX10_takeChain_28 : decode cX10_takeChain 28 = .ok (.iload 5, 2) := by decide +kernel
theorem dX10_takeChain_30 : decode cX10_takeChain 30 = .ok (.iaload, 1) := by decide +kernel
theorem dX10_takeChain_31 : decode cX10_takeChain 31 = .ok (.iload_n 2, 1) := by decide +kernel
theorem dX10_takeChain_32 : decode cX10_takeChain 32 = .ok (.if_icmp .eq 31, 3) := by decide +kernel
theorem dX10_takeChain_35 : decode cX10_takeChain 35 = .ok (.aload_n 1, 1) := by decide +kernel
theorem dX10_takeChain_36 : decode cX10_takeChain 36 = .ok (.iload 5, 2) := by decide +kernel
theorem dX10_takeChain_38 : decode cX10_takeChain 38 = .ok (.iaload, 1) := by decide +kernel
theorem dX10_takeChain_39 : decode cX10_takeChain 39 = .ok (.aload_n 0, 1) := by decide +kernel
theorem dX10_takeChain_40 : decode cX10_takeChain 40 = .ok (.getfield 31, 3) := by decide +kernel
theorem dX10_takeChain_43 : decode cX10_takeChain 43 = .ok (.getfield 127, 3) := by decide +kernel
theorem dX10_takeChain_46 : decode cX10_takeChain 46 = .ok (.if_icmp .lt 17, 3) := by decide +kernel
theorem dX10_takeChain_49 : decode cX10_takeChain 49 = .ok (.aload_n 1, 1) := by decide +kernel
theorem dX10_takeChain_50 : decode cX10_takeChain 50 = .ok (.iload 5, 2) := by decide +kernel
theorem dX10_takeChain_52 : decode cX10_takeChain 52 = .ok (.iaload, 1) := by decide +kernel
theorem dX10_takeChain_53 : decode cX10_takeChain 53 = .ok (.aload_n 0, 1) := by decide +kernel
theorem dX10_takeChain_54 : decode cX10_takeChain 54 = .ok (.getfield 31, 3) := by decide +kernel
theorem dX10_takeChain_57 : decode cX10_takeChain 57 = .ok (.getfield 130, 3) := by decide +kernel
theorem dX10_takeChain_60 : decode cX10_takeChain 60 = .ok (.if_icmp .le 6, 3) := by decide +kernel
theorem dX10_takeChain_63 : decode cX10_takeChain 63 = .ok (.iload 4, 2) := by decide +kernel
theorem dX10_takeChain_65 : decode cX10_takeChain 65 = .ok (.ireturn, 1) := by decide +kernel
theorem dX10_takeChain_66 : decode cX10_takeChain 66 = .ok (.iload 4, 2) := by decide +kernel
theorem dX10_takeChain_68 : decode cX10_takeChain 68 = .ok (.aload_n 1, 1) := by decide +kernel
theorem dX10_takeChain_69 : decode cX10_takeChain 69 = .ok (.iload 5, 2) := by decide +kernel
theorem dX10_takeChain_71 : decode cX10_takeChain 71 = .ok (.iaload, 1) := by decide +kernel
theorem dX10_takeChain_72 : decode cX10_takeChain 72 = .ok (.iadd, 1) := by decide +kernel
theorem dX10_takeChain_73 : decode cX10_takeChain 73 = .ok (.istore 4, 2) := by decide +kernel
theorem dX10_takeChain_75 : decode cX10_takeChain 75 = .ok (.aload_n 1, 1) := by decide +kernel
theorem dX10_takeChain_76 : decode cX10_takeChain 76 = .ok (.iload 5, 2) := by decide +kernel
theorem dX10_takeChain_78 : decode cX10_takeChain 78 = .ok (.iconst 0, 1) := by decide +kernel
theorem dX10_takeChain_79 : decode cX10_takeChain 79 = .ok (.iastore, 1) := by decide +kernel
theorem dX10_takeChain_80 : decode cX10_takeChain 80 = .ok (.aload_n 0, 1) := by decide +kernel
theorem dX10_takeChain_81 : decode cX10_takeChain 81 = .ok (.getfield 27, 3) := by decide +kernel
theorem dX10_takeChain_84 : decode cX10_takeChain 84 = .ok (.getfield 133, 3) := by decide +kernel
theorem dX10_takeChain_87 : decode cX10_takeChain 87 = .ok (.iload 5, 2) := by decide +kernel
theorem dX10_takeChain_89 : decode cX10_takeChain 89 = .ok (.iaload, 1) := by decide +kernel
theorem dX10_takeChain_90 : decode cX10_takeChain 90 = .ok (.istore 5, 2) := by decide +kernel
theorem dX10_takeChain_92 : decode cX10_takeChain 92 = .ok (.iinc 6 1, 3) := by decide +kernel
theorem dX10_takeChain_95 : decode cX10_takeChain 95 = .ok (.goto (-86), 3) := by decide +kernel
theorem dX10_takeChain_98 : decode cX10_takeChain 98 = .ok (.iload 4, 2) := by decide +kernel
theorem dX10_takeChain_100 : decode cX10_takeChain 100 = .ok (.ireturn, 1) := by decide +kernel
theorem dX10_takeBehind_0 : decode cX10_takeBehind 0 = .ok (.aload_n 0, 1) := by decide +kernel
theorem dX10_takeBehind_1 : decode cX10_takeBehind 1 = .ok (.getfield 31, 3) := by decide +kernel
theorem dX10_takeBehind_4 : decode cX10_takeBehind 4 = .ok (.getfield 87, 3) := by decide +kernel
theorem dX10_takeBehind_7 : decode cX10_takeBehind 7 = .ok (.tableswitch 77 1 3 #[25, 50, 58], 25) := by decide +kernel
theorem dX10_takeBehind_32 : decode cX10_takeBehind 32 = .ok (.aload_n 0, 1) := by decide +kernel
theorem dX10_takeBehind_33 : decode cX10_takeBehind 33 = .ok (.getfield 27, 3) := by decide +kernel
theorem dX10_takeBehind_36 : decode cX10_takeBehind 36 = .ok (.getfield 58, 3) := by decide +kernel
theorem dX10_takeBehind_39 : decode cX10_takeBehind 39 = .ok (.iload_n 3, 1) := by decide +kernel
theorem dX10_takeBehind_40 : decode cX10_takeBehind 40 = .ok (.iaload, 1) := by decide +kernel
theorem dX10_takeBehind_41 : decode cX10_takeBehind 41 = .ok (.iload_n 2, 1) := by decide +kernel
theorem dX10_takeBehind_42 : decode cX10_takeBehind 42 = .ok (.if_icmp .ne 13, 3) := by decide +kernel
theorem dX10_takeBehind_45 : decode cX10_takeBehind 45 = .ok (.aload_n 0, 1) := by decide +kernel
theorem dX10_takeBehind_46 : decode cX10_takeBehind 46 = .ok (.aload_n 1, 1) := by decide +kernel
theorem dX10_takeBehind_47 : decode cX10_takeBehind 47 = .ok (.iload_n 2, 1) := by decide +kernel
theorem dX10_takeBehind_48 : decode cX10_takeBehind 48 = .ok (.iload_n 3, 1) := by decide +kernel
theorem dX10_takeBehind_49 : decode cX10_takeBehind 49 = .ok (.invokevirtual 112, 3) := by decide +kernel
theorem dX10_takeBehind_52 : decode cX10_takeBehind 52 = .ok (.goto 4, 3) := by decide +kernel
theorem dX10_takeBehind_55 : decode cX10_takeBehind 55 = .ok (.iconst 0, 1) := by decide +kernel
theorem dX10_takeBehind_56 : decode cX10_takeBehind 56 = .ok (.ireturn, 1) := by decide +kernel
theorem dX10_takeBehind_57 : decode cX10_takeBehind 57 = .ok (.aload_n 0, 1) := by decide +kernel
theorem dX10_takeBehind_58 : decode cX10_takeBehind 58 = .ok (.aload_n 1, 1) := by decide +kernel
theorem dX10_takeBehind_59 : decode cX10_takeBehind 59 = .ok (.iload_n 2, 1) := by decide +kernel
theorem dX10_takeBehind_60 : decode cX10_takeBehind 60 = .ok (.iload_n 3, 1) := by decide +kernel
theorem dX10_takeBehind_61 : decode cX10_takeBehind 61 = .ok (.invokevirtual 115, 3) := by decide +kernel
theorem dX10_takeBehind_64 : decode cX10_takeBehind 64 = .ok (.ireturn, 1) := by decide +kernel
theorem dX10_takeBehind_65 : decode cX10_takeBehind 65 = .ok (.aload_n 1, 1) := by decide +kernel
theorem dX10_takeBehind_66 : decode cX10_takeBehind 66 = .ok (.iload_n 3, 1) := by decide +kernel
theorem dX10_takeBehind_67 : decode cX10_takeBehind 67 = .ok (.iaload, 1) := by decide +kernel
theorem dX10_takeBehind_68 : decode cX10_takeBehind 68 = .ok (.iconst 1, 1) := by decide +kernel
theorem dX10_takeBehind_69 : decode cX10_takeBehind 69 = .ok (.if_icmp .ne 13, 3) := by decide +kernel
theorem dX10_takeBehind_72 : decode cX10_takeBehind 72 = .ok (.aload_n 0, 1) := by decide +kernel
theorem dX10_takeBehind_73 : decode cX10_takeBehind 73 = .ok (.aload_n 1, 1) := by decide +kernel
theorem dX10_takeBehind_74 : decode cX10_takeBehind 74 = .ok (.iload_n 2, 1) := by decide +kernel
theorem dX10_takeBehind_75 : decode cX10_takeBehind 75 = .ok (.iload_n 3, 1) := by decide +kernel
theorem dX10_takeBehind_76 : decode cX10_takeBehind 76 = .ok (.invokevirtual 112, 3) := by decide +kernel
theorem dX10_takeBehind_79 : decode cX10_takeBehind 79 = .ok (.goto 4, 3) := by decide +kernel
theorem dX10_takeBehind_82 : decode cX10_takeBehind 82 = .ok (.iconst 0, 1) := by decide +kernel
theorem dX10_takeBehind_83 : decode cX10_takeBehind 83 = .ok (.ireturn, 1) := by decide +kernel
theorem dX10_takeBehind_84 : decode cX10_takeBehind 84 = .ok (.iconst 0, 1) := by decide +kernel
theorem dX10_takeBehind_85 : decode cX10_takeBehind 85 = .ok (.ireturn, 1) := by decide +kernel
theorem dX10_carryOut_0 : decode cX10_carryOut 0 = .ok (.aload_n 0, 1) := by decide +kernel
theorem dX10_carryOut_1 : decode cX10_carryOut 1 = .ok (.getfield 21, 3) := by decide +kernel
theorem dX10_carryOut_4 : decode cX10_carryOut 4 = .ok (.iload_n 3, 1) := by decide +kernel
theorem dX10_carryOut_5 : decode cX10_carryOut 5 = .ok (.aaload, 1) := by decide +kernel
theorem dX10_carryOut_6 : decode cX10_carryOut 6 = .ok (.astore 4, 2) := by decide +kernel
theorem dX10_carryOut_8 : decode cX10_carryOut 8 = .ok (.aload_n 1, 1) := by decide +kernel
theorem dX10_carryOut_9 : decode cX10_carryOut 9 = .ok (.iconst 0, 1) := by decide +kernel
theorem dX10_carryOut_10 : decode cX10_carryOut 10 = .ok (.aload 4, 2) := by decide +kernel
theorem dX10_carryOut_12 : decode cX10_carryOut 12 = .ok (.iconst 0, 1) := by decide +kernel
theorem dX10_carryOut_13 : decode cX10_carryOut 13 = .ok (.bipush 32, 2) := by decide +kernel
theorem dX10_carryOut_15 : decode cX10_carryOut 15 = .ok (.invokestatic 81, 3) := by decide +kernel
theorem dX10_carryOut_18 : decode cX10_carryOut 18 = .ok (.aload_n 0, 1) := by decide +kernel
theorem dX10_carryOut_19 : decode cX10_carryOut 19 = .ok (.getfield 31, 3) := by decide +kernel
theorem dX10_carryOut_22 : decode cX10_carryOut 22 = .ok (.getfield 87, 3) := by decide +kernel
theorem dX10_carryOut_25 : decode cX10_carryOut 25 = .ok (.iconst 3, 1) := by decide +kernel
theorem dX10_carryOut_26 : decode cX10_carryOut 26 = .ok (.if_icmp .ne 7, 3) := by decide +kernel
theorem dX10_carryOut_29 : decode cX10_carryOut 29 = .ok (.iconst 1, 1) := by decide +kernel
theorem dX10_carryOut_30 : decode cX10_carryOut 30 = .ok (.goto 4, 3) := by decide +kernel
theorem dX10_carryOut_33 : decode cX10_carryOut 33 = .ok (.iconst 0, 1) := by decide +kernel
theorem dX10_carryOut_34 : decode cX10_carryOut 34 = .ok (.istore 5, 2) := by decide +kernel
theorem dX10_carryOut_36 : decode cX10_carryOut 36 = .ok (.iload 5, 2) := by decide +kernel
theorem dX10_carryOut_38 : decode cX10_carryOut 38 = .ok (.ifCond .eq 13, 3) := by decide +kernel
theorem dX10_carryOut_41 : decode cX10_carryOut 41 = .ok (.aload_n 0, 1) := by decide +kernel
theorem dX10_carryOut_42 : decode cX10_carryOut 42 = .ok (.getfield 27, 3) := by decide +kernel
theorem dX10_carryOut_45 : decode cX10_carryOut 45 = .ok (.getfield 90, 3) := by decide +kernel
theorem dX10_carryOut_48 : decode cX10_carryOut 48 = .ok (.goto 10, 3) := by decide +kernel
theorem dX10_carryOut_51 : decode cX10_carryOut 51 = .ok (.aload_n 0, 1) := by decide +kernel
theorem dX10_carryOut_52 : decode cX10_carryOut 52 = .ok (.getfield 27, 3) := by decide +kernel
theorem dX10_carryOut_55 : decode cX10_carryOut 55 = .ok (.getfield 93, 3) := by decide +kernel
theorem dX10_carryOut_58 : decode cX10_carryOut 58 = .ok (.astore 6, 2) := by decide +kernel
theorem dX10_carryOut_60 : decode cX10_carryOut 60 = .ok (.iload 5, 2) := by decide +kernel
theorem dX10_carryOut_62 : decode cX10_carryOut 62 = .ok (.ifCond .eq 15, 3) := by decide +kernel
theorem dX10_carryOut_65 : decode cX10_carryOut 65 = .ok (.aload_n 0, 1) := by decide +kernel
theorem dX10_carryOut_66 : decode cX10_carryOut 66 = .ok (.getfield 27, 3) := by decide +kernel
theorem dX10_carryOut_69 : decode cX10_carryOut 69 = .ok (.getfield 96, 3) := by decide +kernel
theorem dX10_carryOut_72 : decode cX10_carryOut 72 = .ok (.iload_n 2, 1) := by decide +kernel
theorem dX10_carryOut_73 : decode cX10_carryOut 73 = .ok (.iaload, 1) := by decide +kernel
theorem dX10_carryOut_74 : decode cX10_carryOut 74 = .ok (.goto 10, 3) := by decide +kernel
theorem dX10_carryOut_77 : decode cX10_carryOut 77 = .ok (.aload_n 0, 1) := by decide +kernel
theorem dX10_carryOut_78 : decode cX10_carryOut 78 = .ok (.getfield 27, 3) := by decide +kernel
theorem dX10_carryOut_81 : decode cX10_carryOut 81 = .ok (.getfield 99, 3) := by decide +kernel
theorem dX10_carryOut_84 : decode cX10_carryOut 84 = .ok (.istore 7, 2) := by decide +kernel
theorem dX10_carryOut_86 : decode cX10_carryOut 86 = .ok (.aload 4, 2) := by decide +kernel
theorem dX10_carryOut_88 : decode cX10_carryOut 88 = .ok (.iload_n 3, 1) := by decide +kernel
theorem dX10_carryOut_89 : decode cX10_carryOut 89 = .ok (.aload 6, 2) := by decide +kernel
theorem dX10_carryOut_91 : decode cX10_carryOut 91 = .ok (.iload 7, 2) := by decide +kernel
theorem dX10_carryOut_93 : decode cX10_carryOut 93 = .ok (.invokestatic 102, 3) := by decide +kernel
theorem dX10_carryOut_96 : decode cX10_carryOut 96 = .ok (.istore 8, 2) := by decide +kernel
theorem dX10_carryOut_98 : decode cX10_carryOut 98 = .ok (.aload_n 0, 1) := by decide +kernel
theorem dX10_carryOut_99 : decode cX10_carryOut 99 = .ok (.getfield 31, 3) := by decide +kernel
theorem dX10_carryOut_102 : decode cX10_carryOut 102 = .ok (.getfield 87, 3) := by decide +kernel
theorem dX10_carryOut_105 : decode cX10_carryOut 105 = .ok (.iconst 1, 1) := by decide +kernel
theorem dX10_carryOut_106 : decode cX10_carryOut 106 = .ok (.if_icmp .ne 57, 3) := by decide +kernel
theorem dX10_carryOut_109 : decode cX10_carryOut 109 = .ok (.iconst 1, 1) := by decide +kernel
theorem dX10_carryOut_110 : decode cX10_carryOut 110 = .ok (.istore 9, 2) := by decide +kernel
theorem dX10_carryOut_112 : decode cX10_carryOut 112 = .ok (.iload 9, 2) := by decide +kernel
theorem dX10_carryOut_114 : decode cX10_carryOut 114 = .ok (.aload_n 0, 1) := by decide +kernel
theorem dX10_carryOut_115 : decode cX10_carryOut 115 = .ok (.getfield 31, 3) := by decide +kernel
theorem dX10_carryOut_118 : decode cX10_carryOut 118 = .ok (.getfield 106, 3) := by decide +kernel
theorem dX10_carryOut_121 : decode cX10_carryOut 121 = .ok (.if_icmp .ge 31, 3) := by decide +kernel
theorem dX10_carryOut_124 : decode cX10_carryOut 124 = .ok (.aload 4, 2) := by decide +kernel
theorem dX10_carryOut_126 : decode cX10_carryOut 126 = .ok (.iload 8, 2) := by decide +kernel
theorem dX10_carryOut_128 : decode cX10_carryOut 128 = .ok (.iaload, 1) := by decide +kernel
theorem dX10_carryOut_129 : decode cX10_carryOut 129 = .ok (.iconst 1, 1) := by decide +kernel
theorem dX10_carryOut_130 : decode cX10_carryOut 130 = .ok (.if_icmp .le 22, 3) := by decide +kernel
theorem dX10_carryOut_133 : decode cX10_carryOut 133 = .ok (.aload 4, 2) := by decide +kernel
theorem dX10_carryOut_135 : decode cX10_carryOut 135 = .ok (.iload 8, 2) := by decide +kernel
theorem dX10_carryOut_137 : decode cX10_carryOut 137 = .ok (.aload 6, 2) := by decide +kernel
theorem dX10_carryOut_139 : decode cX10_carryOut 139 = .ok (.iload 7, 2) := by decide +kernel
theorem dX10_carryOut_141 : decode cX10_carryOut 141 = .ok (.invokestatic 102, 3) := by decide +kernel
theorem dX10_carryOut_144 : decode cX10_carryOut 144 = .ok (.istore 8, 2) := by decide +kernel
theorem dX10_carryOut_146 : decode cX10_carryOut 146 = .ok (.iinc 9 1, 3) := by decide +kernel
theorem dX10_carryOut_149 : decode cX10_carryOut 149 = .ok (.goto (-37), 3) := by decide +kernel
theorem dX10_carryOut_152 : decode cX10_carryOut 152 = .ok (.aload 4, 2) := by decide +kernel
theorem dX10_carryOut_154 : decode cX10_carryOut 154 = .ok (.iload 8, 2) := by decide +kernel
theorem dX10_carryOut_156 : decode cX10_carryOut 156 = .ok (.iaload, 1) := by decide +kernel
theorem dX10_carryOut_157 : decode cX10_carryOut 157 = .ok (.iconst 1, 1) := by decide +kernel
theorem dX10_carryOut_158 : decode cX10_carryOut 158 = .ok (.if_icmp .le 5, 3) := by decide +kernel
theorem dX10_carryOut_161 : decode cX10_carryOut 161 = .ok (.iconst 0, 1) := by decide +kernel
theorem dX10_carryOut_162 : decode cX10_carryOut 162 = .ok (.ireturn, 1) := by decide +kernel
theorem dX10_carryOut_163 : decode cX10_carryOut 163 = .ok (.aload_n 0, 1) := by decide +kernel
theorem dX10_carryOut_164 : decode cX10_carryOut 164 = .ok (.getfield 15, 3) := by decide +kernel
theorem dX10_carryOut_167 : decode cX10_carryOut 167 = .ok (.iload_n 3, 1) := by decide +kernel
theorem dX10_carryOut_168 : decode cX10_carryOut 168 = .ok (.aload_n 0, 1) := by decide +kernel
theorem dX10_carryOut_169 : decode cX10_carryOut 169 = .ok (.aload 4, 2) := by decide +kernel
theorem dX10_carryOut_171 : decode cX10_carryOut 171 = .ok (.iload_n 2, 1) := by decide +kernel
theorem dX10_carryOut_172 : decode cX10_carryOut 172 = .ok (.iload 8, 2) := by decide +kernel
theorem dX10_carryOut_174 : decode cX10_carryOut 174 = .ok (.invokevirtual 109, 3) := by decide +kernel
theorem dX10_carryOut_177 : decode cX10_carryOut 177 = .ok (.iastore, 1) := by decide +kernel
theorem dX10_carryOut_178 : decode cX10_carryOut 178 = .ok (.iconst 1, 1) := by decide +kernel
theorem dX10_carryOut_179 : decode cX10_carryOut 179 = .ok (.ireturn, 1) := by decide +kernel
theorem dX1_seedsOf_0 : decode cX1_seedsOf 0 = .ok (.iconst 0, 1) := by decide +kernel
theorem dX1_seedsOf_1 : decode cX1_seedsOf 1 = .ok (.istore_n 3, 1) := by decide +kernel
theorem dX1_seedsOf_2 : decode cX1_seedsOf 2 = .ok (.aload_n 0, 1) := by decide +kernel
theorem dX1_seedsOf_3 : decode cX1_seedsOf 3 = .ok (.getfield 22, 3) := by decide +kernel
theorem dX1_seedsOf_6 : decode cX1_seedsOf 6 = .ok (.iload_n 1, 1) := by decide +kernel
theorem dX1_seedsOf_7 : decode cX1_seedsOf 7 = .ok (.iaload, 1) := by decide +kernel
theorem dX1_seedsOf_8 : decode cX1_seedsOf 8 = .ok (.istore 4, 2) := by decide +kernel
theorem dX1_seedsOf_10 : decode cX1_seedsOf 10 = .ok (.iload 4, 2) := by decide +kernel
theorem dX1_seedsOf_12 : decode cX1_seedsOf 12 = .ok (.aload_n 0, 1) := by decide +kernel
theorem dX1_seedsOf_13 : decode cX1_seedsOf 13 = .ok (.getfield 25, 3) := by decide +kernel
theorem dX1_seedsOf_16 : decode cX1_seedsOf 16 = .ok (.iload_n 1, 1) := by decide +kernel
theorem dX1_seedsOf_17 : decode cX1_seedsOf 17 = .ok (.iaload, 1) := by decide +kernel
theorem dX1_seedsOf_18 : decode cX1_seedsOf 18 = .ok (.if_icmp .ge 16, 3) := by decide +kernel
theorem dX1_seedsOf_21 : decode cX1_seedsOf 21 = .ok (.iload_n 3, 1) := by decide +kernel
theorem dX1_seedsOf_22 : decode cX1_seedsOf 22 = .ok (.aload_n 2, 1) := by decide +kernel
theorem dX1_seedsOf_23 : decode cX1_seedsOf 23 = .ok (.iload 4, 2) := by decide +kernel
theorem dX1_seedsOf_25 : decode cX1_seedsOf 25 = .ok (.iaload, 1) := by decide +kernel
theorem dX1_seedsOf_26 : decode cX1_seedsOf 26 = .ok (.iadd, 1) := by decide +kernel
theorem dX1_seedsOf_27 : decode cX1_seedsOf 27 = .ok (.istore_n 3, 1) := by decide +kernel
theorem dX1_seedsOf_28 : decode cX1_seedsOf 28 = .ok (.iinc 4 1, 3) := by decide +kernel
theorem dX1_seedsOf_31 : decode cX1_seedsOf 31 = .ok (.goto (-21), 3) := by decide +kernel
theorem dX1_seedsOf_34 : decode cX1_seedsOf 34 = .ok (.iload_n 3, 1) := by decide +kernel
theorem dX1_seedsOf_35 : decode cX1_seedsOf 35 = .ok (.ireturn, 1) := by decide +kernel
theorem dX10_tryPit_0 : decode cX10_tryPit 0 = .ok (.aload_n 0, 1) := by decide +kernel
theorem dX10_tryPit_1 : decode cX10_tryPit 1 = .ok (.getfield 27, 3) := by decide +kernel
theorem dX10_tryPit_4 : decode cX10_tryPit 4 = .ok (.getfield 58, 3) := by decide +kernel
theorem dX10_tryPit_7 : decode cX10_tryPit 7 = .ok (.iload_n 3, 1) := by decide +kernel
theorem dX10_tryPit_8 : decode cX10_tryPit 8 = .ok (.iaload, 1) := by decide +kernel
theorem dX10_tryPit_9 : decode cX10_tryPit 9 = .ok (.iload_n 2, 1) := by decide +kernel
theorem dX10_tryPit_10 : decode cX10_tryPit 10 = .ok (.if_icmp .ne 28, 3) := by decide +kernel
theorem dX10_tryPit_13 : decode cX10_tryPit 13 = .ok (.aload_n 0, 1) := by decide +kernel
theorem dX10_tryPit_14 : decode cX10_tryPit 14 = .ok (.getfield 27, 3) := by decide +kernel
theorem dX10_tryPit_17 : decode cX10_tryPit 17 = .ok (.getfield 61, 3) := by decide +kernel
theorem dX10_tryPit_20 : decode cX10_tryPit 20 = .ok (.iload_n 3, 1) := by decide +kernel
theorem dX10_tryPit_21 : decode cX10_tryPit 21 = .ok (.baload, 1) := by decide +kernel
theorem dX10_tryPit_22 : decode cX10_tryPit 22 = .ok (.ifCond .ne 16, 3) := by decide +kernel
theorem dX10_tryPit_25 : decode cX10_tryPit 25 = .ok (.aload_n 1, 1) := by decide +kernel
theorem dX10_tryPit_26 : decode cX10_tryPit 26 = .ok (.iload_n 3, 1) := by decide +kernel
theorem dX10_tryPit_27 : decode cX10_tryPit 27 = .ok (.iaload, 1) := by decide +kernel
theorem dX10_tryPit_28 : decode cX10_tryPit 28 = .ok (.aload_n 0, 1) := by decide +kernel
theorem dX10_tryPit_29 : decode cX10_tryPit 29 = .ok (.getfield 31, 3) := by decide +kernel
theorem dX10_tryPit_32 : decode cX10_tryPit 32 = .ok (.getfield 64, 3) := by decide +kernel
theorem dX10_tryPit_35 : decode cX10_tryPit 35 = .ok (.if_icmp .ge 5, 3) := by decide +kernel
theorem dX10_tryPit_38 : decode cX10_tryPit 38 = .ok (.iconst 0, 1) := by decide +kernel
theorem dX10_tryPit_39 : decode cX10_tryPit 39 = .ok (.ireturn, 1) := by decide +kernel
theorem dX10_tryPit_40 : decode cX10_tryPit 40 = .ok (.aload_n 0, 1) := by decide +kernel
theorem dX10_tryPit_41 : decode cX10_tryPit 41 = .ok (.aload_n 1, 1) := by decide +kernel
theorem dX10_tryPit_42 : decode cX10_tryPit 42 = .ok (.iload_n 2, 1) := by decide +kernel
theorem dX10_tryPit_43 : decode cX10_tryPit 43 = .ok (.iload_n 3, 1) := by decide +kernel
theorem dX10_tryPit_44 : decode cX10_tryPit 44 = .ok (.invokevirtual 69, 3) := by decide +kernel
theorem dX10_tryPit_47 : decode cX10_tryPit 47 = .ok (.ifCond .ne 5, 3) := by decide +kernel
theorem dX10_tryPit_50 : decode cX10_tryPit 50 = .ok (.iconst (-1), 1) := by decide +kernel
theorem dX10_tryPit_51 : decode cX10_tryPit 51 = .ok (.ireturn, 1) := by decide +kernel
theorem dX10_tryPit_52 : decode cX10_tryPit 52 = .ok (.aload_n 0, 1) := by decide +kernel
theorem dX10_tryPit_53 : decode cX10_tryPit 53 = .ok (.getfield 31, 3) := by decide +kernel
theorem dX10_tryPit_56 : decode cX10_tryPit 56 = .ok (.getfield 73, 3) := by decide +kernel
theorem dX10_tryPit_59 : decode cX10_tryPit 59 = .ok (.ifCond .eq 26, 3) := by decide +kernel
theorem dX10_tryPit_62 : decode cX10_tryPit 62 = .ok (.aload_n 0, 1) := by decide +kernel
theorem dX10_tryPit_63 : decode cX10_tryPit 63 = .ok (.getfield 27, 3) := by decide +kernel
theorem dX10_tryPit_66 : decode cX10_tryPit 66 = .ok (.iconst 1, 1) := by decide +kernel
theorem dX10_tryPit_67 : decode cX10_tryPit 67 = .ok (.iload_n 2, 1) := by decide +kernel
theorem dX10_tryPit_68 : decode cX10_tryPit 68 = .ok (.isub, 1) := by decide +kernel
theorem dX10_tryPit_69 : decode cX10_tryPit 69 = .ok (.aload_n 0, 1) := by decide +kernel
theorem dX10_tryPit_70 : decode cX10_tryPit 70 = .ok (.getfield 21, 3) := by decide +kernel
theorem dX10_tryPit_73 : decode cX10_tryPit 73 = .ok (.iload_n 3, 1) := by decide +kernel
theorem dX10_tryPit_74 : decode cX10_tryPit 74 = .ok (.aaload, 1) := by decide +kernel
theorem dX10_tryPit_75 : decode cX10_tryPit 75 = .ok (.invokevirtual 77, 3) := by decide +kernel
theorem dX10_tryPit_78 : decode cX10_tryPit 78 = .ok (.ifCond .le 7, 3) := by decide +kernel
theorem dX10_tryPit_81 : decode cX10_tryPit 81 = .ok (.iconst 2, 1) := by decide +kernel
theorem dX10_tryPit_82 : decode cX10_tryPit 82 = .ok (.goto 4, 3) := by decide +kernel
theorem dX10_tryPit_85 : decode cX10_tryPit 85 = .ok (.iconst 1, 1) := by decide +kernel
theorem dX10_tryPit_86 : decode cX10_tryPit 86 = .ok (.ireturn, 1) := by decide +kernel
theorem dX10_survey_0 : decode cX10_survey 0 = .ok (.iconst 1, 1) := by decide +kernel
theorem dX10_survey_1 : decode cX10_survey 1 = .ok (.istore_n 3, 1) := by decide +kernel
theorem dX10_survey_2 : decode cX10_survey 2 = .ok (.iconst 0, 1) := by decide +kernel
theorem dX10_survey_3 : decode cX10_survey 3 = .ok (.istore 4, 2) := by decide +kernel
theorem dX10_survey_5 : decode cX10_survey 5 = .ok (.iload 4, 2) := by decide +kernel
theorem dX10_survey_7 : decode cX10_survey 7 = .ok (.aload_n 0, 1) := by decide +kernel
theorem dX10_survey_8 : decode cX10_survey 8 = .ok (.getfield 27, 3) := by decide +kernel
theorem dX10_survey_11 : decode cX10_survey 11 = .ok (.getfield 35, 3) := by decide +kernel
theorem dX10_survey_14 : decode cX10_survey 14 = .ok (.if_icmp .ge 36, 3) := by decide +kernel
theorem dX10_survey_17 : decode cX10_survey 17 = .ok (.aload_n 0, 1) := by decide +kernel
theorem dX10_survey_18 : decode cX10_survey 18 = .ok (.getfield 24, 3) := by decide +kernel
theorem dX10_survey_21 : decode cX10_survey 21 = .ok (.iload 4, 2) := by decide +kernel
theorem dX10_survey_23 : decode cX10_survey 23 = .ok (.aload_n 0, 1) := by decide +kernel
theorem dX10_survey_24 : decode cX10_survey 24 = .ok (.aload_n 1, 1) := by decide +kernel
theorem dX10_survey_25 : decode cX10_survey 25 = .ok (.iload_n 2, 1) := by decide +kernel
theorem dX10_survey_26 : decode cX10_survey 26 = .ok (.iload 4, 2) := by decide +kernel
theorem dX10_survey_28 : decode cX10_survey 28 = .ok (.invokevirtual 41, 3) := by decide +kernel
theorem dX10_survey_31 : decode cX10_survey 31 = .ok (.iastore, 1) := by decide +kernel
theorem dX10_survey_32 : decode cX10_survey 32 = .ok (.iload_n 3, 1) := by decide +kernel
theorem dX10_survey_33 : decode cX10_survey 33 = .ok (.aload_n 0, 1) := by decide +kernel
theorem dX10_survey_34 : decode cX10_survey 34 = .ok (.getfield 24, 3) := by decide +kernel
theorem dX10_survey_37 : decode cX10_survey 37 = .ok (.iload 4, 2) := by decide +kernel
theorem dX10_survey_39 : decode cX10_survey 39 = .ok (.iaload, 1) := by decide +kernel
theorem dX10_survey_40 : decode cX10_survey 40 = .ok (.invokestatic 45, 3) := by decide +kernel
theorem dX10_survey_43 : decode cX10_survey 43 = .ok (.istore_n 3, 1) := by decide +kernel
theorem dX10_survey_44 : decode cX10_survey 44 = .ok (.iinc 4 1, 3) := by decide +kernel
theorem dX10_survey_47 : decode cX10_survey 47 = .ok (.goto (-42), 3) := by decide +kernel
theorem dX10_survey_50 : decode cX10_survey 50 = .ok (.aload_n 0, 1) := by decide +kernel
theorem dX10_survey_51 : decode cX10_survey 51 = .ok (.iconst 0, 1) := by decide +kernel
theorem dX10_survey_52 : decode cX10_survey 52 = .ok (.putfield 51, 3) := by decide +kernel
theorem dX10_survey_55 : decode cX10_survey 55 = .ok (.iconst 0, 1) := by decide +kernel
theorem dX10_survey_56 : decode cX10_survey 56 = .ok (.istore 4, 2) := by decide +kernel
theorem dX10_survey_58 : decode cX10_survey 58 = .ok (.iload 4, 2) := by decide +kernel
theorem dX10_survey_60 : decode cX10_survey 60 = .ok (.aload_n 0, 1) := by decide +kernel
theorem dX10_survey_61 : decode cX10_survey 61 = .ok (.getfield 27, 3) := by decide +kernel
theorem dX10_survey_64 : decode cX10_survey 64 = .ok (.getfield 35, 3) := by decide +kernel
theorem dX10_survey_67 : decode cX10_survey 67 = .ok (.if_icmp .ge 52, 3) := by decide +kernel
theorem dX10_survey_70 : decode cX10_survey 70 = .ok (.aload_n 0, 1) := by decide +kernel
theorem dX10_survey_71 : decode cX10_survey 71 = .ok (.getfield 9, 3) := by decide +kernel
theorem dX10_survey_74 : decode cX10_survey 74 = .ok (.iload 4, 2) := by decide +kernel
theorem dX10_survey_76 : decode cX10_survey 76 = .ok (.aload_n 0, 1) := by decide +kernel
theorem dX10_survey_77 : decode cX10_survey 77 = .ok (.getfield 24, 3) := by decide +kernel
theorem dX10_survey_80 : decode cX10_survey 80 = .ok (.iload 4, 2) := by decide +kernel
theorem dX10_survey_82 : decode cX10_survey 82 = .ok (.iaload, 1) := by decide +kernel
theorem dX10_survey_83 : decode cX10_survey 83 = .ok (.iload_n 3, 1) := by decide +kernel
theorem dX10_survey_84 : decode cX10_survey 84 = .ok (.if_icmp .lt 7, 3) := by decide +kernel
theorem dX10_survey_87 : decode cX10_survey 87 = .ok (.iconst 1, 1) := by decide +kernel
theorem dX10_survey_88 : decode cX10_survey 88 = .ok (.goto 4, 3) := by decide +kernel
theorem dX10_survey_91 : decode cX10_survey 91 = .ok (.iconst 0, 1) := by decide +kernel
theorem dX10_survey_92 : decode cX10_survey 92 = .ok (.bastore, 1) := by decide +kernel
theorem dX10_survey_93 : decode cX10_survey 93 = .ok (.aload_n 0, 1) := by decide +kernel
theorem dX10_survey_94 : decode cX10_survey 94 = .ok (.getfield 9, 3) := by decide +kernel
theorem dX10_survey_97 : decode cX10_survey 97 = .ok (.iload 4, 2) := by decide +kernel
theorem dX10_survey_99 : decode cX10_survey 99 = .ok (.baload, 1) := by decide +kernel
theorem dX10_survey_100 : decode cX10_survey 100 = .ok (.ifCond .eq 13, 3) := by decide +kernel
theorem dX10_survey_103 : decode cX10_survey 103 = .ok (.aload_n 0, 1) := by decide +kernel
theorem dX10_survey_104 : decode cX10_survey 104 = .ok (.dup, 1) := by decide +kernel
theorem dX10_survey_105 : decode cX10_survey 105 = .ok (.getfield 51, 3) := by decide +kernel
theorem dX10_survey_108 : decode cX10_survey 108 = .ok (.iconst 1, 1) := by decide +kernel
theorem dX10_survey_109 : decode cX10_survey 109 = .ok (.iadd, 1) := by decide +kernel
theorem dX10_survey_110 : decode cX10_survey 110 = .ok (.putfield 51, 3) := by decide +kernel
theorem dX10_survey_113 : decode cX10_survey 113 = .ok (.iinc 4 1, 3) := by decide +kernel
theorem dX10_survey_116 : decode cX10_survey 116 = .ok (.goto (-58), 3) := by decide +kernel
theorem dX10_survey_119 : decode cX10_survey 119 = .ok (.aload_n 0, 1) := by decide +kernel
theorem dX10_survey_120 : decode cX10_survey 120 = .ok (.getfield 51, 3) := by decide +kernel
theorem dX10_survey_123 : decode cX10_survey 123 = .ok (.ireturn, 1) := by decide +kernel
theorem dX1_seedsIn_0 : decode cX1_seedsIn 0 = .ok (.aload_n 0, 1) := by decide +kernel
theorem dX1_seedsIn_1 : decode cX1_seedsIn 1 = .ok (.iconst 0, 1) := by decide +kernel
theorem dX1_seedsIn_2 : decode cX1_seedsIn 2 = .ok (.aload_n 1, 1) := by decide +kernel
theorem dX1_seedsIn_3 : decode cX1_seedsIn 3 = .ok (.invokevirtual 65, 3) := by decide +kernel
theorem dX1_seedsIn_6 : decode cX1_seedsIn 6 = .ok (.aload_n 0, 1) := by decide +kernel
theorem dX1_seedsIn_7 : decode cX1_seedsIn 7 = .ok (.iconst 1, 1) := by decide +kernel
theorem dX1_seedsIn_8 : decode cX1_seedsIn 8 = .ok (.aload_n 1, 1) := by decide +kernel
theorem dX1_seedsIn_9 : decode cX1_seedsIn 9 = .ok (.invokevirtual 65, 3) := by decide +kernel
theorem dX1_seedsIn_12 : decode cX1_seedsIn 12 = .ok (.iadd, 1) := by decide +kernel
theorem dX1_seedsIn_13 : decode cX1_seedsIn 13 = .ok (.ireturn, 1) := by decide +kernel
theorem dX3_numberOf_0 : decode cX3_numberOf 0 = .ok (.aload_n 0, 1) := by decide +kernel
theorem dX3_numberOf_1 : decode cX3_numberOf 1 = .ok (.getfield 19, 3) := by decide +kernel
theorem dX3_numberOf_4 : decode cX3_numberOf 4 = .ok (.aload_n 1, 1) := by decide +kernel
theorem dX3_numberOf_5 : decode cX3_numberOf 5 = .ok (.invokevirtual 33, 3) := by decide +kernel
theorem dX3_numberOf_8 : decode cX3_numberOf 8 = .ok (.istore_n 2, 1) := by decide +kernel
theorem dX3_numberOf_9 : decode cX3_numberOf 9 = .ok (.aload_n 0, 1) := by decide +kernel
theorem dX3_numberOf_10 : decode cX3_numberOf 10 = .ok (.iload_n 2, 1) := by decide +kernel
theorem dX3_numberOf_11 : decode cX3_numberOf 11 = .ok (.iconst 1, 1) := by decide +kernel
theorem dX3_numberOf_12 : decode cX3_numberOf 12 = .ok (.isub, 1) := by decide +kernel
theorem dX3_numberOf_13 : decode cX3_numberOf 13 = .ok (.invokevirtual 37, 3) := by decide +kernel
theorem dX3_numberOf_16 : decode cX3_numberOf 16 = .ok (.lstore_n 3, 1) := by decide +kernel
theorem dX3_numberOf_17 : decode cX3_numberOf 17 = .ok (.iconst 0, 1) := by decide +kernel
theorem dX3_numberOf_18 : decode cX3_numberOf 18 = .ok (.istore 5, 2) := by decide +kernel
theorem dX3_numberOf_20 : decode cX3_numberOf 20 = .ok (.iload 5, 2) := by decide +kernel
theorem dX3_numberOf_22 : decode cX3_numberOf 22 = .ok (.aload_n 0, 1) := by decide +kernel
theorem dX3_numberOf_23 : decode cX3_numberOf 23 = .ok (.getfield 19, 3) := by decide +kernel
theorem dX3_numberOf_26 : decode cX3_numberOf 26 = .ok (.getfield 23, 3) := by decide +kernel
theorem dX3_numberOf_29 : decode cX3_numberOf 29 = .ok (.if_icmp .ge 63, 3) := by decide +kernel
theorem dX3_numberOf_32 : decode cX3_numberOf 32 = .ok (.iload_n 2, 1) := by decide +kernel
theorem dX3_numberOf_33 : decode cX3_numberOf 33 = .ok (.ifCond .le 59, 3) := by decide +kernel
theorem dX3_numberOf_36 : decode cX3_numberOf 36 = .ok (.iload_n 2, 1) := by decide +kernel
theorem dX3_numberOf_37 : decode cX3_numberOf 37 = .ok (.aload_n 1, 1) := by decide +kernel
theorem dX3_numberOf_38 : decode cX3_numberOf 38 = .ok (.aload_n 0, 1) := by decide +kernel
theorem dX3_numberOf_39 : decode cX3_numberOf 39 = .ok (.getfield 19, 3) := by decide +kernel
theorem dX3_numberOf_42 : decode cX3_numberOf 42 = .ok (.getfield 41, 3) := by decide +kernel
theorem dX3_numberOf_45 : decode cX3_numberOf 45 = .ok (.iload 5, 2) := by decide +kernel
theorem dX3_numberOf_47 : decode cX3_numberOf 47 = .ok (.iaload, 1) := by decide +kernel
theorem dX3_numberOf_48 : decode cX3_numberOf 48 = .ok (.iaload, 1) := by decide +kernel
theorem dX3_numberOf_49 : decode cX3_numberOf 49 = .ok (.isub, 1) := by decide +kernel
theorem dX3_numberOf_50 : decode cX3_numberOf 50 = .ok (.istore 6, 2) := by decide +kernel
theorem dX3_numberOf_52 : decode cX3_numberOf 52 = .ok (.aload_n 0, 1) := by decide +kernel
theorem dX3_numberOf_53 : decode cX3_numberOf 53 = .ok (.getfield 19, 3) := by decide +kernel
theorem dX3_numberOf_56 : decode cX3_numberOf 56 = .ok (.getfield 23, 3) := by decide +kernel
theorem dX3_numberOf_59 : decode cX3_numberOf 59 = .ok (.iload 5, 2) := by decide +kernel
theorem dX3_numberOf_61 : decode cX3_numberOf 61 = .ok (.isub, 1) := by decide +kernel
theorem dX3_numberOf_62 : decode cX3_numberOf 62 = .ok (.istore 7, 2) := by decide +kernel
theorem dX3_numberOf_64 : decode cX3_numberOf 64 = .ok (.lload_n 3, 1) := by decide +kernel
theorem dX3_numberOf_65 : decode cX3_numberOf 65 = .ok (.aload_n 0, 1) := by decide +kernel
theorem dX3_numberOf_66 : decode cX3_numberOf 66 = .ok (.iload 7, 2) := by decide +kernel
theorem dX3_numberOf_68 : decode cX3_numberOf 68 = .ok (.iload_n 2, 1) := by decide +kernel
theorem dX3_numberOf_69 : decode cX3_numberOf 69 = .ok (.invokevirtual 29, 3) := by decide +kernel
theorem dX3_numberOf_72 : decode cX3_numberOf 72 = .ok (.aload_n 0, 1) := by decide +kernel
theorem dX3_numberOf_73 : decode cX3_numberOf 73 = .ok (.iload 7, 2) := by decide +kernel
theorem dX3_numberOf_75 : decode cX3_numberOf 75 = .ok (.iload 6, 2) := by decide +kernel
theorem dX3_numberOf_77 : decode cX3_numberOf 77 = .ok (.invokevirtual 29, 3) := by decide +kernel
theorem dX3_numberOf_80 : decode cX3_numberOf 80 = .ok (.lsub, 1) := by decide +kernel
theorem dX3_numberOf_81 : decode cX3_numberOf 81 = .ok (.ladd, 1) := by decide +kernel
theorem dX3_numberOf_82 : decode cX3_numberOf 82 = .ok (.lstore_n 3, 1) := by decide +kernel
theorem dX3_numberOf_83 : decode cX3_numberOf 83 = .ok (.iload 6, 2) := by decide +kernel
theorem dX3_numberOf_85 : decode cX3_numberOf 85 = .ok (.istore_n 2, 1) := by decide +kernel
theorem dX3_numberOf_86 : decode cX3_numberOf 86 = .ok (.iinc 5 1, 3) := by decide +kernel
theorem dX3_numberOf_89 : decode cX3_numberOf 89 = .ok (.goto (-69), 3) := by decide +kernel
theorem dX3_numberOf_92 : decode cX3_numberOf 92 = .ok (.lload_n 3, 1) := by decide +kernel
theorem dX3_numberOf_93 : decode cX3_numberOf 93 = .ok (.lreturn, 1) := by decide +kernel
theorem dX8_countsFor_0 : decode cX8_countsFor 0 = .ok (.aload_n 0, 1) := by decide +kernel
theorem dX8_countsFor_1 : decode cX8_countsFor 1 = .ok (.getfield 35, 3) := by decide +kernel
theorem dX8_countsFor_4 : decode cX8_countsFor 4 = .ok (.ifCond .ne 11, 3) := by decide +kernel
theorem dX8_countsFor_7 : decode cX8_countsFor 7 = .ok (.aload 4, 2) := by decide +kernel
theorem dX8_countsFor_9 : decode cX8_countsFor 9 = .ok (.iload_n 1, 1) := by decide +kernel
theorem dX8_countsFor_10 : decode cX8_countsFor 10 = .ok (.aload_n 3, 1) := by decide +kernel
theorem dX8_countsFor_11 : decode cX8_countsFor 11 = .ok (.invokevirtual 38, 3) := by decide +kernel
theorem dX8_countsFor_14 : decode cX8_countsFor 14 = .ok (.ireturn, 1) := by decide +kernel
theorem dX8_countsFor_15 : decode cX8_countsFor 15 = .ok (.aload_n 0, 1) := by decide +kernel
theorem dX8_countsFor_16 : decode cX8_countsFor 16 = .ok (.getfield 35, 3) := by decide +kernel
theorem dX8_countsFor_19 : decode cX8_countsFor 19 = .ok (.iconst 1, 1) := by decide +kernel
theorem dX8_countsFor_20 : decode cX8_countsFor 20 = .ok (.if_icmp .ne 17, 3) := by decide +kernel
theorem dX8_countsFor_23 : decode cX8_countsFor 23 = .ok (.iload_n 1, 1) := by decide +kernel
theorem dX8_countsFor_24 : decode cX8_countsFor 24 = .ok (.iload_n 2, 1) := by decide +kernel
theorem dX8_countsFor_25 : decode cX8_countsFor 25 = .ok (.if_icmp .eq 12, 3) := by decide +kernel
theorem dX8_countsFor_28 : decode cX8_countsFor 28 = .ok (.aload 4, 2) := by decide +kernel
theorem dX8_countsFor_30 : decode cX8_countsFor 30 = .ok (.aload_n 3, 1) := by decide +kernel
theorem dX8_countsFor_31 : decode cX8_countsFor 31 = .ok (.invokevirtual 44, 3) := by decide +kernel
theorem dX8_countsFor_34 : decode cX8_countsFor 34 = .ok (.goto 4, 3) := by decide +kernel
theorem dX8_countsFor_37 : decode cX8_countsFor 37 = .ok (.iconst 0, 1) := by decide +kernel
theorem dX8_countsFor_38 : decode cX8_countsFor 38 = .ok (.ireturn, 1) := by decide +kernel
theorem dX0_keepSurvey_0 : decode cX0_keepSurvey 0 = .ok (.aload_n 0, 1) := by decide +kernel
theorem dX0_keepSurvey_1 : decode cX0_keepSurvey 1 = .ok (.getfield 15, 3) := by decide +kernel
theorem dX0_keepSurvey_4 : decode cX0_keepSurvey 4 = .ok (.iload_n 1, 1) := by decide +kernel
theorem dX0_keepSurvey_5 : decode cX0_keepSurvey 5 = .ok (.iaload, 1) := by decide +kernel
theorem dX0_keepSurvey_6 : decode cX0_keepSurvey 6 = .ok (.istore_n 3, 1) := by decide +kernel
theorem dX0_keepSurvey_7 : decode cX0_keepSurvey 7 = .ok (.aload_n 0, 1) := by decide +kernel
theorem dX0_keepSurvey_8 : decode cX0_keepSurvey 8 = .ok (.getfield 24, 3) := by decide +kernel
theorem dX0_keepSurvey_11 : decode cX0_keepSurvey 11 = .ok (.getfield 75, 3) := by decide +kernel
theorem dX0_keepSurvey_14 : decode cX0_keepSurvey 14 = .ok (.iload_n 2, 1) := by decide +kernel
theorem dX0_keepSurvey_15 : decode cX0_keepSurvey 15 = .ok (.iaload, 1) := by decide +kernel
theorem dX0_keepSurvey_16 : decode cX0_keepSurvey 16 = .ok (.istore 4, 2) := by decide +kernel
theorem dX0_keepSurvey_18 : decode cX0_keepSurvey 18 = .ok (.iload 4, 2) := by decide +kernel
theorem dX0_keepSurvey_20 : decode cX0_keepSurvey 20 = .ok (.aload_n 0, 1) := by decide +kernel
theorem dX0_keepSurvey_21 : decode cX0_keepSurvey 21 = .ok (.getfield 24, 3) := by decide +kernel
theorem dX0_keepSurvey_24 : decode cX0_keepSurvey 24 = .ok (.getfield 80, 3) := by decide +kernel
theorem dX0_keepSurvey_27 : decode cX0_keepSurvey 27 = .ok (.iload_n 2, 1) := by decide +kernel
theorem dX0_keepSurvey_28 : decode cX0_keepSurvey 28 = .ok (.iaload, 1) := by decide +kernel
theorem dX0_keepSurvey_29 : decode cX0_keepSurvey 29 = .ok (.if_icmp .ge 79, 3) := by decide +kernel
theorem dX0_keepSurvey_32 : decode cX0_keepSurvey 32 = .ok (.aload_n 0, 1) := by decide +kernel
theorem dX0_keepSurvey_33 : decode cX0_keepSurvey 33 = .ok (.getfield 32, 3) := by decide +kernel
theorem dX0_keepSurvey_36 : decode cX0_keepSurvey 36 = .ok (.getfield 83, 3) := by decide +kernel
theorem dX0_keepSurvey_39 : decode cX0_keepSurvey 39 = .ok (.iload 4, 2) := by decide +kernel
theorem dX0_keepSurvey_41 : decode cX0_keepSurvey 41 = .ok (.baload, 1) := by decide +kernel
theorem dX0_keepSurvey_42 : decode cX0_keepSurvey 42 = .ok (.ifCond .eq 60, 3) := by decide +kernel
theorem dX0_keepSurvey_45 : decode cX0_keepSurvey 45 = .ok (.iconst 2, 1) := by decide +kernel
theorem dX0_keepSurvey_46 : decode cX0_keepSurvey 46 = .ok (.aload_n 0, 1) := by decide +kernel
theorem dX0_keepSurvey_47 : decode cX0_keepSurvey 47 = .ok (.getfield 36, 3) := by decide +kernel
theorem dX0_keepSurvey_50 : decode cX0_keepSurvey 50 = .ok (.aload_n 0, 1) := by decide +kernel
theorem dX0_keepSurvey_51 : decode cX0_keepSurvey 51 = .ok (.getfield 32, 3) := by decide +kernel
theorem dX0_keepSurvey_54 : decode cX0_keepSurvey 54 = .ok (.getfield 87, 3) := by decide +kernel
theorem dX0_keepSurvey_57 : decode cX0_keepSurvey 57 = .ok (.iload 4, 2) := by decide +kernel
theorem dX0_keepSurvey_59 : decode cX0_keepSurvey 59 = .ok (.aaload, 1) := by decide +kernel
theorem dX0_keepSurvey_60 : decode cX0_keepSurvey 60 = .ok (.invokevirtual 91, 3) := by decide +kernel
theorem dX0_keepSurvey_63 : decode cX0_keepSurvey 63 = .ok (.l2i, 1) := by decide +kernel
theorem dX0_keepSurvey_64 : decode cX0_keepSurvey 64 = .ok (.imul, 1) := by decide +kernel
theorem dX0_keepSurvey_65 : decode cX0_keepSurvey 65 = .ok (.iconst 1, 1) := by decide +kernel
theorem dX0_keepSurvey_66 : decode cX0_keepSurvey 66 = .ok (.iadd, 1) := by decide +kernel
theorem dX0_keepSurvey_67 : decode cX0_keepSurvey 67 = .ok (.iload_n 2, 1) := by decide +kernel
theorem dX0_keepSurvey_68 : decode cX0_keepSurvey 68 = .ok (.isub, 1) := by decide +kernel
theorem dX0_keepSurvey_69 : decode cX0_keepSurvey 69 = .ok (.istore 5, 2) := by decide +kernel
theorem dX0_keepSurvey_71 : decode cX0_keepSurvey 71 = .ok (.aload_n 0, 1) := by decide +kernel
theorem dX0_keepSurvey_72 : decode cX0_keepSurvey 72 = .ok (.getfield 18, 3) := by decide +kernel
theorem dX0_keepSurvey_75 : decode cX0_keepSurvey 75 = .ok (.iload_n 3, 1) := by decide +kernel
theorem dX0_keepSurvey_76 : decode cX0_keepSurvey 76 = .ok (.iload 4, 2) := by decide +kernel
theorem dX0_keepSurvey_78 : decode cX0_keepSurvey 78 = .ok (.bipush 20, 2) := by decide +kernel
theorem dX0_keepSurvey_80 : decode cX0_keepSurvey 80 = .ok (.ishl, 1) := by decide +kernel
theorem dX0_keepSurvey_81 : decode cX0_keepSurvey 81 = .ok (.aload_n 0, 1) := by decide +kernel
theorem dX0_keepSurvey_82 : decode cX0_keepSurvey 82 = .ok (.getfield 32, 3) := by decide +kernel
theorem dX0_keepSurvey_85 : decode cX0_keepSurvey 85 = .ok (.getfield 95, 3) := by decide +kernel
theorem dX0_keepSurvey_88 : decode cX0_keepSurvey 88 = .ok (.iload 4, 2) := by decide +kernel
theorem dX0_keepSurvey_90 : decode cX0_keepSurvey 90 = .ok (.iaload, 1) := by decide +kernel
theorem dX0_keepSurvey_91 : decode cX0_keepSurvey 91 = .ok (.bipush 16, 2) := by decide +kernel
theorem dX0_keepSurvey_93 : decode cX0_keepSurvey 93 = .ok (.ishl, 1) := by decide +kernel
theorem dX0_keepSurvey_94 : decode cX0_keepSurvey 94 = .ok (.ior, 1) := by decide +kernel
theorem dX0_keepSurvey_95 : decode cX0_keepSurvey 95 = .ok (.iload 5, 2) := by decide +kernel
theorem dX0_keepSurvey_97 : decode cX0_keepSurvey 97 = .ok (.ior, 1) := by decide +kernel
theorem dX0_keepSurvey_98 : decode cX0_keepSurvey 98 = .ok (.iastore, 1) := by decide +kernel
theorem dX0_keepSurvey_99 : decode cX0_keepSurvey 99 = .ok (.iinc 3 1, 3) := by decide +kernel
theorem dX0_keepSurvey_102 : decode cX0_keepSurvey 102 = .ok (.iinc 4 1, 3) := by decide +kernel
theorem dX0_keepSurvey_105 : decode cX0_keepSurvey 105 = .ok (.goto (-87), 3) := by decide +kernel
theorem dX0_keepSurvey_108 : decode cX0_keepSurvey 108 = .ok (.aload_n 0, 1) := by decide +kernel
theorem dX0_keepSurvey_109 : decode cX0_keepSurvey 109 = .ok (.getfield 15, 3) := by decide +kernel
theorem dX0_keepSurvey_112 : decode cX0_keepSurvey 112 = .ok (.iload_n 1, 1) := by decide +kernel
theorem dX0_keepSurvey_113 : decode cX0_keepSurvey 113 = .ok (.iconst 1, 1) := by decide +kernel
theorem dX0_keepSurvey_114 : decode cX0_keepSurvey 114 = .ok (.iadd, 1) := by decide +kernel
theorem dX0_keepSurvey_115 : decode cX0_keepSurvey 115 = .ok (.iload_n 3, 1) := by decide +kernel
theorem dX0_keepSurvey_116 : decode cX0_keepSurvey 116 = .ok (.iastore, 1) := by decide +kernel
theorem dX0_keepSurvey_117 : decode cX0_keepSurvey 117 = .ok (.aload_n 0, 1) := by decide +kernel
theorem dX0_keepSurvey_118 : decode cX0_keepSurvey 118 = .ok (.getfield 9, 3) := by decide +kernel
theorem dX0_keepSurvey_121 : decode cX0_keepSurvey 121 = .ok (.iload_n 1, 1) := by decide +kernel
theorem dX0_keepSurvey_122 : decode cX0_keepSurvey 122 = .ok (.aload_n 0, 1) := by decide +kernel
theorem dX0_keepSurvey_123 : decode cX0_keepSurvey 123 = .ok (.getfield 28, 3) := by decide +kernel
theorem dX0_keepSurvey_126 : decode cX0_keepSurvey 126 = .ok (.iload_n 2, 1) := by decide +kernel
theorem dX0_keepSurvey_127 : decode cX0_keepSurvey 127 = .ok (.iload_n 2, 1) := by decide +kernel
theorem dX0_keepSurvey_128 : decode cX0_keepSurvey 128 = .ok (.aload_n 0, 1) := by decide +kernel
theorem dX0_keepSurvey_129 : decode cX0_keepSurvey 129 = .ok (.getfield 21, 3) := by decide +kernel
theorem dX0_keepSurvey_132 : decode cX0_keepSurvey 132 = .ok (.aload_n 0, 1) := by decide +kernel
theorem dX0_keepSurvey_133 : decode cX0_keepSurvey 133 = .ok (.getfield 24, 3) := by decide +kernel
theorem dX0_keepSurvey_136 : decode cX0_keepSurvey 136 = .ok (.invokevirtual 98, 3) := by decide +kernel
theorem dX0_keepSurvey_139 : decode cX0_keepSurvey 139 = .ok (.aload_n 0, 1) := by decide +kernel
theorem dX0_keepSurvey_140 : decode cX0_keepSurvey 140 = .ok (.getfield 28, 3) := by decide +kernel
theorem dX0_keepSurvey_143 : decode cX0_keepSurvey 143 = .ok (.iconst 1, 1) := by decide +kernel
theorem dX0_keepSurvey_144 : decode cX0_keepSurvey 144 = .ok (.iload_n 2, 1) := by decide +kernel
theorem dX0_keepSurvey_145 : decode cX0_keepSurvey 145 = .ok (.isub, 1) := by decide +kernel
theorem dX0_keepSurvey_146 : decode cX0_keepSurvey 146 = .ok (.iload_n 2, 1) := by decide +kernel
theorem dX0_keepSurvey_147 : decode cX0_keepSurvey 147 = .ok (.aload_n 0, 1) := by decide +kernel
theorem dX0_keepSurvey_148 : decode cX0_keepSurvey 148 = .ok (.getfield 21, 3) := by decide +kernel
theorem dX0_keepSurvey_151 : decode cX0_keepSurvey 151 = .ok (.aload_n 0, 1) := by decide +kernel
theorem dX0_keepSurvey_152 : decode cX0_keepSurvey 152 = .ok (.getfield 24, 3) := by decide +kernel
theorem dX0_keepSurvey_155 : decode cX0_keepSurvey 155 = .ok (.invokevirtual 98, 3) := by decide +kernel
theorem dX0_keepSurvey_158 : decode cX0_keepSurvey 158 = .ok (.isub, 1) := by decide +kernel
theorem dX0_keepSurvey_159 : decode cX0_keepSurvey 159 = .ok (.iastore, 1) := by decide +kernel
theorem dX0_keepSurvey_160 : decode cX0_keepSurvey 160 = .ok (.return_, 1) := by decide +kernel
theorem dX0_buildLayer_0 : decode cX0_buildLayer 0 = .ok (.aload_n 0, 1) := by decide +kernel
theorem dX0_buildLayer_1 : decode cX0_buildLayer 1 = .ok (.getfield 41, 3) := by decide +kernel
theorem dX0_buildLayer_4 : decode cX0_buildLayer 4 = .ok (.iload_n 1, 1) := by decide +kernel
theorem dX0_buildLayer_5 : decode cX0_buildLayer 5 = .ok (.if_icmp .gt 109, 3) := by decide +kernel
theorem dX0_buildLayer_8 : decode cX0_buildLayer 8 = .ok (.aload_n 0, 1) := by decide +kernel
theorem dX0_buildLayer_9 : decode cX0_buildLayer 9 = .ok (.getfield 36, 3) := by decide +kernel
theorem dX0_buildLayer_12 : decode cX0_buildLayer 12 = .ok (.aload_n 0, 1) := by decide +kernel
theorem dX0_buildLayer_13 : decode cX0_buildLayer 13 = .ok (.getfield 41, 3) := by decide +kernel
theorem dX0_buildLayer_16 : decode cX0_buildLayer 16 = .ok (.invokevirtual 55, 3) := by decide +kernel
theorem dX0_buildLayer_19 : decode cX0_buildLayer 19 = .ok (.l2i, 1) := by decide +kernel
theorem dX0_buildLayer_20 : decode cX0_buildLayer 20 = .ok (.istore_n 2, 1) := by decide +kernel
theorem dX0_buildLayer_21 : decode cX0_buildLayer 21 = .ok (.aload_n 0, 1) := by decide +kernel
theorem dX0_buildLayer_22 : decode cX0_buildLayer 22 = .ok (.getfield 36, 3) := by decide +kernel
theorem dX0_buildLayer_25 : decode cX0_buildLayer 25 = .ok (.aload_n 0, 1) := by decide +kernel
theorem dX0_buildLayer_26 : decode cX0_buildLayer 26 = .ok (.getfield 41, 3) := by decide +kernel
theorem dX0_buildLayer_29 : decode cX0_buildLayer 29 = .ok (.iconst 1, 1) := by decide +kernel
theorem dX0_buildLayer_30 : decode cX0_buildLayer 30 = .ok (.isub, 1) := by decide +kernel
theorem dX0_buildLayer_31 : decode cX0_buildLayer 31 = .ok (.invokevirtual 55, 3) := by decide +kernel
theorem dX0_buildLayer_34 : decode cX0_buildLayer 34 = .ok (.l2i, 1) := by decide +kernel
theorem dX0_buildLayer_35 : decode cX0_buildLayer 35 = .ok (.istore_n 3, 1) := by decide +kernel
theorem dX0_buildLayer_36 : decode cX0_buildLayer 36 = .ok (.iload_n 3, 1) := by decide +kernel
theorem dX0_buildLayer_37 : decode cX0_buildLayer 37 = .ok (.iload_n 2, 1) := by decide +kernel
theorem dX0_buildLayer_38 : decode cX0_buildLayer 38 = .ok (.if_icmp .ge 63, 3) := by decide +kernel
theorem dX0_buildLayer_41 : decode cX0_buildLayer 41 = .ok (.aload_n 0, 1) := by decide +kernel
theorem dX0_buildLayer_42 : decode cX0_buildLayer 42 = .ok (.getfield 36, 3) := by decide +kernel
theorem dX0_buildLayer_45 : decode cX0_buildLayer 45 = .ok (.aload_n 0, 1) := by decide +kernel
theorem dX0_buildLayer_46 : decode cX0_buildLayer 46 = .ok (.getfield 21, 3) := by decide +kernel
theorem dX0_buildLayer_49 : decode cX0_buildLayer 49 = .ok (.iload_n 3, 1) := by decide +kernel
theorem dX0_buildLayer_50 : decode cX0_buildLayer 50 = .ok (.i2l, 1) := by decide +kernel
theorem dX0_buildLayer_51 : decode cX0_buildLayer 51 = .ok (.invokevirtual 61, 3) := by decide +kernel
theorem dX0_buildLayer_54 : decode cX0_buildLayer 54 = .ok (.iconst 0, 1) := by decide +kernel
theorem dX0_buildLayer_55 : decode cX0_buildLayer 55 = .ok (.istore 4, 2) := by decide +kernel
theorem dX0_buildLayer_57 : decode cX0_buildLayer 57 = .ok (.iload 4, 2) := by decide +kernel
theorem dX0_buildLayer_59 : decode cX0_buildLayer 59 = .ok (.iconst 2, 1) := by decide +kernel
theorem dX0_buildLayer_60 : decode cX0_buildLayer 60 = .ok (.if_icmp .ge 35, 3) := by decide +kernel
theorem dX0_buildLayer_63 : decode cX0_buildLayer 63 = .ok (.aload_n 0, 1) := by decide +kernel
theorem dX0_buildLayer_64 : decode cX0_buildLayer 64 = .ok (.getfield 32, 3) := by decide +kernel
theorem dX0_buildLayer_67 : decode cX0_buildLayer 67 = .ok (.aload_n 0, 1) := by decide +kernel
theorem dX0_buildLayer_68 : decode cX0_buildLayer 68 = .ok (.getfield 21, 3) := by decide +kernel
theorem dX0_buildLayer_71 : decode cX0_buildLayer 71 = .ok (.iload 4, 2) := by decide +kernel
theorem dX0_buildLayer_73 : decode cX0_buildLayer 73 = .ok (.invokevirtual 65, 3) := by decide +kernel
theorem dX0_buildLayer_76 : decode cX0_buildLayer 76 = .ok (.pop, 1) := by decide +kernel
theorem dX0_buildLayer_77 : decode cX0_buildLayer 77 = .ok (.aload_n 0, 1) := by decide +kernel
theorem dX0_buildLayer_78 : decode cX0_buildLayer 78 = .ok (.iconst 2, 1) := by decide +kernel
theorem dX0_buildLayer_79 : decode cX0_buildLayer 79 = .ok (.iload_n 3, 1) := by decide +kernel
theorem dX0_buildLayer_80 : decode cX0_buildLayer 80 = .ok (.imul, 1) := by decide +kernel
theorem dX0_buildLayer_81 : decode cX0_buildLayer 81 = .ok (.iload 4, 2) := by decide +kernel
theorem dX0_buildLayer_83 : decode cX0_buildLayer 83 = .ok (.iadd, 1) := by decide +kernel
theorem dX0_buildLayer_84 : decode cX0_buildLayer 84 = .ok (.iload 4, 2) := by decide +kernel
theorem dX0_buildLayer_86 : decode cX0_buildLayer 86 = .ok (.invokevirtual 71, 3) := by decide +kernel
theorem dX0_buildLayer_89 : decode cX0_buildLayer 89 = .ok (.iinc 4 1, 3) := by decide +kernel
theorem dX0_buildLayer_92 : decode cX0_buildLayer 92 = .ok (.goto (-35), 3) := by decide +kernel
theorem dX0_buildLayer_95 : decode cX0_buildLayer 95 = .ok (.iinc 3 1, 3) := by decide +kernel
theorem dX0_buildLayer_98 : decode cX0_buildLayer 98 = .ok (.goto (-62), 3) := by decide +kernel
theorem dX0_buildLayer_101 : decode cX0_buildLayer 101 = .ok (.aload_n 0, 1) := by decide +kernel
theorem dX0_buildLayer_102 : decode cX0_buildLayer 102 = .ok (.dup, 1) := by decide +kernel
theorem dX0_buildLayer_103 : decode cX0_buildLayer 103 = .ok (.getfield 41, 3) := by decide +kernel
theorem dX0_buildLayer_106 : decode cX0_buildLayer 106 = .ok (.iconst 1, 1) := by decide +kernel
theorem dX0_buildLayer_107 : decode cX0_buildLayer 107 = .ok (.iadd, 1) := by decide +kernel
theorem dX0_buildLayer_108 : decode cX0_buildLayer 108 = .ok (.putfield 41, 3) := by decide +kernel
theorem dX0_buildLayer_111 : decode cX0_buildLayer 111 = .ok (.goto (-111), 3) := by decide +kernel
theorem dX0_buildLayer_114 : decode cX0_buildLayer 114 = .ok (.return_, 1) := by decide +kernel
