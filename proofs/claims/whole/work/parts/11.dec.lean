theorem dX1_init_0 : decode cX1_init 0 = .ok (.aload_n 0, 1) := by decide +kernel
theorem dX1_init_1 : decode cX1_init 1 = .ok (.invokespecial 3, 3) := by decide +kernel
theorem dX1_init_4 : decode cX1_init 4 = .ok (.aload_n 0, 1) := by decide +kernel
theorem dX1_init_5 : decode cX1_init 5 = .ok (.bipush 32, 2) := by decide +kernel
theorem dX1_init_7 : decode cX1_init 7 = .ok (.newarray .boolean, 2) := by decide +kernel
theorem dX1_init_9 : decode cX1_init 9 = .ok (.putfield 9, 3) := by decide +kernel
theorem dX1_init_12 : decode cX1_init 12 = .ok (.aload_n 0, 1) := by decide +kernel
theorem dX1_init_13 : decode cX1_init 13 = .ok (.bipush 32, 2) := by decide +kernel
theorem dX1_init_15 : decode cX1_init 15 = .ok (.newarray .int, 2) := by decide +kernel
theorem dX1_init_17 : decode cX1_init 17 = .ok (.putfield 15, 3) := by decide +kernel
theorem dX1_init_20 : decode cX1_init 20 = .ok (.aload_n 0, 1) := by decide +kernel
theorem dX1_init_21 : decode cX1_init 21 = .ok (.iconst 2, 1) := by decide +kernel
theorem dX1_init_22 : decode cX1_init 22 = .ok (.newarray .int, 2) := by decide +kernel
theorem dX1_init_24 : decode cX1_init 24 = .ok (.putfield 19, 3) := by decide +kernel
theorem dX1_init_27 : decode cX1_init 27 = .ok (.aload_n 0, 1) := by decide +kernel
theorem dX1_init_28 : decode cX1_init 28 = .ok (.iconst 2, 1) := by decide +kernel
theorem dX1_init_29 : decode cX1_init 29 = .ok (.newarray .int, 2) := by decide +kernel
theorem dX1_init_31 : decode cX1_init 31 = .ok (.putfield 22, 3) := by decide +kernel
theorem dX1_init_34 : decode cX1_init 34 = .ok (.aload_n 0, 1) := by decide +kernel
theorem dX1_init_35 : decode cX1_init 35 = .ok (.iconst 2, 1) := by decide +kernel
theorem dX1_init_36 : decode cX1_init 36 = .ok (.newarray .int, 2) := by decide +kernel
theorem dX1_init_38 : decode cX1_init 38 = .ok (.putfield 25, 3) := by decide +kernel
theorem dX1_init_41 : decode cX1_init 41 = .ok (.aload_n 0, 1) := by decide +kernel
theorem dX1_init_42 : decode cX1_init 42 = .ok (.bipush 32, 2) := by decide +kernel
theorem dX1_init_44 : decode cX1_init 44 = .ok (.newarray .int, 2) := by decide +kernel
theorem dX1_init_46 : decode cX1_init 46 = .ok (.putfield 28, 3) := by decide +kernel
theorem dX1_init_49 : decode cX1_init 49 = .ok (.aload_n 0, 1) := by decide +kernel
theorem dX1_init_50 : decode cX1_init 50 = .ok (.bipush 32, 2) := by decide +kernel
theorem dX1_init_52 : decode cX1_init 52 = .ok (.newarray .int, 2) := by decide +kernel
theorem dX1_init_54 : decode cX1_init 54 = .ok (.putfield 31, 3) := by decide +kernel
theorem dX1_init_57 : decode cX1_init 57 = .ok (.aload_n 0, 1) := by decide +kernel
theorem dX1_init_58 : decode cX1_init 58 = .ok (.bipush 32, 2) := by decide +kernel
theorem dX1_init_60 : decode cX1_init 60 = .ok (.newarray .int, 2) := by decide +kernel
theorem dX1_init_62 : decode cX1_init 62 = .ok (.putfield 34, 3) := by decide +kernel
theorem dX1_init_65 : decode cX1_init 65 = .ok (.aload_n 0, 1) := by decide +kernel
theorem dX1_init_66 : decode cX1_init 66 = .ok (.bipush 32, 2) := by decide +kernel
theorem dX1_init_68 : decode cX1_init 68 = .ok (.newarray .int, 2) := by decide +kernel
theorem dX1_init_70 : decode cX1_init 70 = .ok (.putfield 37, 3) := by decide +kernel
theorem dX1_init_73 : decode cX1_init 73 = .ok (.aload_n 0, 1) := by decide +kernel
theorem dX1_init_74 : decode cX1_init 74 = .ok (.bipush 32, 2) := by decide +kernel
theorem dX1_init_76 : decode cX1_init 76 = .ok (.newarray .int, 2) := by decide +kernel
theorem dX1_init_78 : decode cX1_init 78 = .ok (.putfield 40, 3) := by decide +kernel
theorem dX1_init_81 : decode cX1_init 81 = .ok (.aload_n 0, 1) := by decide +kernel
theorem dX1_init_82 : decode cX1_init 82 = .ok (.bipush 32, 2) := by decide +kernel
theorem dX1_init_84 : decode cX1_init 84 = .ok (.newarray .int, 2) := by decide +kernel
theorem dX1_init_86 : decode cX1_init 86 = .ok (.putfield 43, 3) := by decide +kernel
theorem dX1_init_89 : decode cX1_init 89 = .ok (.return_, 1) := by decide +kernel
theorem dX1_listLive_0 : decode cX1_listLive 0 = .ok (.aload_n 0, 1) := by decide +kernel
theorem dX1_listLive_1 : decode cX1_listLive 1 = .ok (.iconst 0, 1) := by decide +kernel
theorem dX1_listLive_2 : decode cX1_listLive 2 = .ok (.putfield 75, 3) := by decide +kernel
theorem dX1_listLive_5 : decode cX1_listLive 5 = .ok (.aload_n 0, 1) := by decide +kernel
theorem dX1_listLive_6 : decode cX1_listLive 6 = .ok (.getfield 19, 3) := by decide +kernel
theorem dX1_listLive_9 : decode cX1_listLive 9 = .ok (.iconst 0, 1) := by decide +kernel
theorem dX1_listLive_10 : decode cX1_listLive 10 = .ok (.iconst 0, 1) := by decide +kernel
theorem dX1_listLive_11 : decode cX1_listLive 11 = .ok (.iastore, 1) := by decide +kernel
theorem dX1_listLive_12 : decode cX1_listLive 12 = .ok (.aload_n 0, 1) := by decide +kernel
theorem dX1_listLive_13 : decode cX1_listLive 13 = .ok (.getfield 19, 3) := by decide +kernel
theorem dX1_listLive_16 : decode cX1_listLive 16 = .ok (.iconst 1, 1) := by decide +kernel
theorem dX1_listLive_17 : decode cX1_listLive 17 = .ok (.iconst 0, 1) := by decide +kernel
theorem dX1_listLive_18 : decode cX1_listLive 18 = .ok (.iastore, 1) := by decide +kernel
theorem dX1_listLive_19 : decode cX1_listLive 19 = .ok (.iconst 0, 1) := by decide +kernel
theorem dX1_listLive_20 : decode cX1_listLive 20 = .ok (.istore_n 1, 1) := by decide +kernel
theorem dX1_listLive_21 : decode cX1_listLive 21 = .ok (.iload_n 1, 1) := by decide +kernel
theorem dX1_listLive_22 : decode cX1_listLive 22 = .ok (.aload_n 0, 1) := by decide +kernel
theorem dX1_listLive_23 : decode cX1_listLive 23 = .ok (.getfield 53, 3) := by decide +kernel
theorem dX1_listLive_26 : decode cX1_listLive 26 = .ok (.if_icmp .ge 53, 3) := by decide +kernel
theorem dX1_listLive_29 : decode cX1_listLive 29 = .ok (.aload_n 0, 1) := by decide +kernel
theorem dX1_listLive_30 : decode cX1_listLive 30 = .ok (.getfield 9, 3) := by decide +kernel
theorem dX1_listLive_33 : decode cX1_listLive 33 = .ok (.iload_n 1, 1) := by decide +kernel
theorem dX1_listLive_34 : decode cX1_listLive 34 = .ok (.baload, 1) := by decide +kernel
theorem dX1_listLive_35 : decode cX1_listLive 35 = .ok (.ifCond .ne 38, 3) := by decide +kernel
theorem dX1_listLive_38 : decode cX1_listLive 38 = .ok (.aload_n 0, 1) := by decide +kernel
theorem dX1_listLive_39 : decode cX1_listLive 39 = .ok (.getfield 15, 3) := by decide +kernel
theorem dX1_listLive_42 : decode cX1_listLive 42 = .ok (.aload_n 0, 1) := by decide +kernel
theorem dX1_listLive_43 : decode cX1_listLive 43 = .ok (.getfield 75, 3) := by decide +kernel
theorem dX1_listLive_46 : decode cX1_listLive 46 = .ok (.iload_n 1, 1) := by decide +kernel
theorem dX1_listLive_47 : decode cX1_listLive 47 = .ok (.iastore, 1) := by decide +kernel
theorem dX1_listLive_48 : decode cX1_listLive 48 = .ok (.aload_n 0, 1) := by decide +kernel
theorem dX1_listLive_49 : decode cX1_listLive 49 = .ok (.dup, 1) := by decide +kernel
theorem dX1_listLive_50 : decode cX1_listLive 50 = .ok (.getfield 75, 3) := by decide +kernel
theorem dX1_listLive_53 : decode cX1_listLive 53 = .ok (.iconst 1, 1) := by decide +kernel
theorem dX1_listLive_54 : decode cX1_listLive 54 = .ok (.iadd, 1) := by decide +kernel
theorem dX1_listLive_55 : decode cX1_listLive 55 = .ok (.putfield 75, 3) := by decide +kernel
theorem dX1_listLive_58 : decode cX1_listLive 58 = .ok (.aload_n 0, 1) := by decide +kernel
theorem dX1_listLive_59 : decode cX1_listLive 59 = .ok (.getfield 19, 3) := by decide +kernel
theorem dX1_listLive_62 : decode cX1_listLive 62 = .ok (.aload_n 0, 1) := by decide +kernel
theorem dX1_listLive_63 : decode cX1_listLive 63 = .ok (.getfield 28, 3) := by decide +kernel
theorem dX1_listLive_66 : decode cX1_listLive 66 = .ok (.iload_n 1, 1) := by decide +kernel
theorem dX1_listLive_67 : decode cX1_listLive 67 = .ok (.iaload, 1) := by decide +kernel
theorem dX1_listLive_68 : decode cX1_listLive 68 = .ok (.dup2, 1) := by decide +kernel
theorem dX1_listLive_69 : decode cX1_listLive 69 = .ok (.iaload, 1) := by decide +kernel
theorem dX1_listLive_70 : decode cX1_listLive 70 = .ok (.iconst 1, 1) := by decide +kernel
theorem dX1_listLive_71 : decode cX1_listLive 71 = .ok (.iadd, 1) := by decide +kernel
theorem dX1_listLive_72 : decode cX1_listLive 72 = .ok (.iastore, 1) := by decide +kernel
theorem dX1_listLive_73 : decode cX1_listLive 73 = .ok (.iinc 1 1, 3) := by decide +kernel
theorem dX1_listLive_76 : decode cX1_listLive 76 = .ok (.goto (-55), 3) := by decide +kernel
theorem dX1_listLive_79 : decode cX1_listLive 79 = .ok (.return_, 1) := by decide +kernel
theorem dX1_pitAt_0 : decode cX1_pitAt 0 = .ok (.iload_n 1, 1) := by decide +kernel
theorem dX1_pitAt_1 : decode cX1_pitAt 1 = .ok (.aload_n 0, 1) := by decide +kernel
theorem dX1_pitAt_2 : decode cX1_pitAt 2 = .ok (.getfield 50, 3) := by decide +kernel
theorem dX1_pitAt_5 : decode cX1_pitAt 5 = .ok (.imul, 1) := by decide +kernel
theorem dX1_pitAt_6 : decode cX1_pitAt 6 = .ok (.iload_n 2, 1) := by decide +kernel
theorem dX1_pitAt_7 : decode cX1_pitAt 7 = .ok (.iadd, 1) := by decide +kernel
theorem dX1_pitAt_8 : decode cX1_pitAt 8 = .ok (.ireturn, 1) := by decide +kernel
theorem dX1_listWay_0 : decode cX1_listWay 0 = .ok (.iconst 0, 1) := by decide +kernel
theorem dX1_listWay_1 : decode cX1_listWay 1 = .ok (.istore_n 1, 1) := by decide +kernel
theorem dX1_listWay_2 : decode cX1_listWay 2 = .ok (.iconst 0, 1) := by decide +kernel
theorem dX1_listWay_3 : decode cX1_listWay 3 = .ok (.istore_n 2, 1) := by decide +kernel
theorem dX1_listWay_4 : decode cX1_listWay 4 = .ok (.iload_n 2, 1) := by decide +kernel
theorem dX1_listWay_5 : decode cX1_listWay 5 = .ok (.aload_n 0, 1) := by decide +kernel
theorem dX1_listWay_6 : decode cX1_listWay 6 = .ok (.getfield 46, 3) := by decide +kernel
theorem dX1_listWay_9 : decode cX1_listWay 9 = .ok (.if_icmp .ge 84, 3) := by decide +kernel
theorem dX1_listWay_12 : decode cX1_listWay 12 = .ok (.iconst 0, 1) := by decide +kernel
theorem dX1_listWay_13 : decode cX1_listWay 13 = .ok (.istore_n 3, 1) := by decide +kernel
theorem dX1_listWay_14 : decode cX1_listWay 14 = .ok (.iload_n 3, 1) := by decide +kernel
theorem dX1_listWay_15 : decode cX1_listWay 15 = .ok (.aload_n 0, 1) := by decide +kernel
theorem dX1_listWay_16 : decode cX1_listWay 16 = .ok (.getfield 50, 3) := by decide +kernel
theorem dX1_listWay_19 : decode cX1_listWay 19 = .ok (.if_icmp .ge 68, 3) := by decide +kernel
theorem dX1_listWay_22 : decode cX1_listWay 22 = .ok (.iload_n 2, 1) := by decide +kernel
theorem dX1_listWay_23 : decode cX1_listWay 23 = .ok (.iconst 1, 1) := by decide +kernel
theorem dX1_listWay_24 : decode cX1_listWay 24 = .ok (.iand, 1) := by decide +kernel
theorem dX1_listWay_25 : decode cX1_listWay 25 = .ok (.ifCond .ne 7, 3) := by decide +kernel
theorem dX1_listWay_28 : decode cX1_listWay 28 = .ok (.iload_n 3, 1) := by decide +kernel
theorem dX1_listWay_29 : decode cX1_listWay 29 = .ok (.goto 11, 3) := by decide +kernel
theorem dX1_listWay_32 : decode cX1_listWay 32 = .ok (.aload_n 0, 1) := by decide +kernel
theorem dX1_listWay_33 : decode cX1_listWay 33 = .ok (.getfield 50, 3) := by decide +kernel
theorem dX1_listWay_36 : decode cX1_listWay 36 = .ok (.iconst 1, 1) := by decide +kernel
theorem dX1_listWay_37 : decode cX1_listWay 37 = .ok (.isub, 1) := by decide +kernel
theorem dX1_listWay_38 : decode cX1_listWay 38 = .ok (.iload_n 3, 1) := by decide +kernel
theorem dX1_listWay_39 : decode cX1_listWay 39 = .ok (.isub, 1) := by decide +kernel
theorem dX1_listWay_40 : decode cX1_listWay 40 = .ok (.istore 4, 2) := by decide +kernel
theorem dX1_listWay_42 : decode cX1_listWay 42 = .ok (.aload_n 0, 1) := by decide +kernel
theorem dX1_listWay_43 : decode cX1_listWay 43 = .ok (.iload_n 2, 1) := by decide +kernel
theorem dX1_listWay_44 : decode cX1_listWay 44 = .ok (.iload 4, 2) := by decide +kernel
theorem dX1_listWay_46 : decode cX1_listWay 46 = .ok (.invokevirtual 82, 3) := by decide +kernel
theorem dX1_listWay_49 : decode cX1_listWay 49 = .ok (.istore 5, 2) := by decide +kernel
theorem dX1_listWay_51 : decode cX1_listWay 51 = .ok (.aload_n 0, 1) := by decide +kernel
theorem dX1_listWay_52 : decode cX1_listWay 52 = .ok (.getfield 31, 3) := by decide +kernel
theorem dX1_listWay_55 : decode cX1_listWay 55 = .ok (.iload 5, 2) := by decide +kernel
theorem dX1_listWay_57 : decode cX1_listWay 57 = .ok (.iload 4, 2) := by decide +kernel
theorem dX1_listWay_59 : decode cX1_listWay 59 = .ok (.iastore, 1) := by decide +kernel
theorem dX1_listWay_60 : decode cX1_listWay 60 = .ok (.aload_n 0, 1) := by decide +kernel
theorem dX1_listWay_61 : decode cX1_listWay 61 = .ok (.getfield 9, 3) := by decide +kernel
theorem dX1_listWay_64 : decode cX1_listWay 64 = .ok (.iload 5, 2) := by decide +kernel
theorem dX1_listWay_66 : decode cX1_listWay 66 = .ok (.baload, 1) := by decide +kernel
theorem dX1_listWay_67 : decode cX1_listWay 67 = .ok (.ifCond .ne 14, 3) := by decide +kernel
theorem dX1_listWay_70 : decode cX1_listWay 70 = .ok (.aload_n 0, 1) := by decide +kernel
theorem dX1_listWay_71 : decode cX1_listWay 71 = .ok (.getfield 43, 3) := by decide +kernel
theorem dX1_listWay_74 : decode cX1_listWay 74 = .ok (.iload_n 1, 1) := by decide +kernel
theorem dX1_listWay_75 : decode cX1_listWay 75 = .ok (.iload 5, 2) := by decide +kernel
theorem dX1_listWay_77 : decode cX1_listWay 77 = .ok (.iastore, 1) := by decide +kernel
theorem dX1_listWay_78 : decode cX1_listWay 78 = .ok (.iinc 1 1, 3) := by decide +kernel
theorem dX1_listWay_81 : decode cX1_listWay 81 = .ok (.iinc 3 1, 3) := by decide +kernel
theorem dX1_listWay_84 : decode cX1_listWay 84 = .ok (.goto (-70), 3) := by decide +kernel
theorem dX1_listWay_87 : decode cX1_listWay 87 = .ok (.iinc 2 1, 3) := by decide +kernel
theorem dX1_listWay_90 : decode cX1_listWay 90 = .ok (.goto (-86), 3) := by decide +kernel
theorem dX1_listWay_93 : decode cX1_listWay 93 = .ok (.return_, 1) := by decide +kernel
theorem dX1_linkRing_0 : decode cX1_linkRing 0 = .ok (.iload_n 1, 1) := by decide +kernel
theorem dX1_linkRing_1 : decode cX1_linkRing 1 = .ok (.istore 4, 2) := by decide +kernel
theorem dX1_linkRing_3 : decode cX1_linkRing 3 = .ok (.iload 4, 2) := by decide +kernel
theorem dX1_linkRing_5 : decode cX1_linkRing 5 = .ok (.iload_n 2, 1) := by decide +kernel
theorem dX1_linkRing_6 : decode cX1_linkRing 6 = .ok (.if_icmp .ge 39, 3) := by decide +kernel
theorem dX1_linkRing_9 : decode cX1_linkRing 9 = .ok (.aload_n 3, 1) := by decide +kernel
theorem dX1_linkRing_10 : decode cX1_linkRing 10 = .ok (.aload_n 0, 1) := by decide +kernel
theorem dX1_linkRing_11 : decode cX1_linkRing 11 = .ok (.getfield 43, 3) := by decide +kernel
theorem dX1_linkRing_14 : decode cX1_linkRing 14 = .ok (.iload 4, 2) := by decide +kernel
theorem dX1_linkRing_16 : decode cX1_linkRing 16 = .ok (.iaload, 1) := by decide +kernel
theorem dX1_linkRing_17 : decode cX1_linkRing 17 = .ok (.aload_n 0, 1) := by decide +kernel
theorem dX1_linkRing_18 : decode cX1_linkRing 18 = .ok (.getfield 43, 3) := by decide +kernel
theorem dX1_linkRing_21 : decode cX1_linkRing 21 = .ok (.iload 4, 2) := by decide +kernel
theorem dX1_linkRing_23 : decode cX1_linkRing 23 = .ok (.iconst 1, 1) := by decide +kernel
theorem dX1_linkRing_24 : decode cX1_linkRing 24 = .ok (.iadd, 1) := by decide +kernel
theorem dX1_linkRing_25 : decode cX1_linkRing 25 = .ok (.iload_n 2, 1) := by decide +kernel
theorem dX1_linkRing_26 : decode cX1_linkRing 26 = .ok (.if_icmp .ge 10, 3) := by decide +kernel
theorem dX1_linkRing_29 : decode cX1_linkRing 29 = .ok (.iload 4, 2) := by decide +kernel
theorem dX1_linkRing_31 : decode cX1_linkRing 31 = .ok (.iconst 1, 1) := by decide +kernel
theorem dX1_linkRing_32 : decode cX1_linkRing 32 = .ok (.iadd, 1) := by decide +kernel
theorem dX1_linkRing_33 : decode cX1_linkRing 33 = .ok (.goto 4, 3) := by decide +kernel
theorem dX1_linkRing_36 : decode cX1_linkRing 36 = .ok (.iload_n 1, 1) := by decide +kernel
theorem dX1_linkRing_37 : decode cX1_linkRing 37 = .ok (.iaload, 1) := by decide +kernel
theorem dX1_linkRing_38 : decode cX1_linkRing 38 = .ok (.iastore, 1) := by decide +kernel
theorem dX1_linkRing_39 : decode cX1_linkRing 39 = .ok (.iinc 4 1, 3) := by decide +kernel
theorem dX1_linkRing_42 : decode cX1_linkRing 42 = .ok (.goto (-39), 3) := by decide +kernel
theorem dX1_linkRing_45 : decode cX1_linkRing 45 = .ok (.return_, 1) := by decide +kernel
theorem dX1_layOut_0 : decode cX1_layOut 0 = .ok (.aload_n 0, 1) := by decide +kernel
theorem dX1_layOut_1 : decode cX1_layOut 1 = .ok (.invokevirtual 69, 3) := by decide +kernel
theorem dX1_layOut_4 : decode cX1_layOut 4 = .ok (.aload_n 0, 1) := by decide +kernel
theorem dX1_layOut_5 : decode cX1_layOut 5 = .ok (.invokevirtual 72, 3) := by decide +kernel
theorem dX1_layOut_8 : decode cX1_layOut 8 = .ok (.aload_n 0, 1) := by decide +kernel
theorem dX1_layOut_9 : decode cX1_layOut 9 = .ok (.iconst 0, 1) := by decide +kernel
theorem dX1_layOut_10 : decode cX1_layOut 10 = .ok (.aload_n 0, 1) := by decide +kernel
theorem dX1_layOut_11 : decode cX1_layOut 11 = .ok (.getfield 75, 3) := by decide +kernel
theorem dX1_layOut_14 : decode cX1_layOut 14 = .ok (.aload_n 0, 1) := by decide +kernel
theorem dX1_layOut_15 : decode cX1_layOut 15 = .ok (.getfield 34, 3) := by decide +kernel
theorem dX1_layOut_18 : decode cX1_layOut 18 = .ok (.invokevirtual 78, 3) := by decide +kernel
theorem dX1_layOut_21 : decode cX1_layOut 21 = .ok (.iconst 0, 1) := by decide +kernel
theorem dX1_layOut_22 : decode cX1_layOut 22 = .ok (.istore_n 1, 1) := by decide +kernel
theorem dX1_layOut_23 : decode cX1_layOut 23 = .ok (.iload_n 1, 1) := by decide +kernel
theorem dX1_layOut_24 : decode cX1_layOut 24 = .ok (.aload_n 0, 1) := by decide +kernel
theorem dX1_layOut_25 : decode cX1_layOut 25 = .ok (.getfield 75, 3) := by decide +kernel
theorem dX1_layOut_28 : decode cX1_layOut 28 = .ok (.if_icmp .ge 31, 3) := by decide +kernel
theorem dX1_layOut_31 : decode cX1_layOut 31 = .ok (.aload_n 0, 1) := by decide +kernel
theorem dX1_layOut_32 : decode cX1_layOut 32 = .ok (.getfield 37, 3) := by decide +kernel
theorem dX1_layOut_35 : decode cX1_layOut 35 = .ok (.aload_n 0, 1) := by decide +kernel
theorem dX1_layOut_36 : decode cX1_layOut 36 = .ok (.getfield 34, 3) := by decide +kernel
theorem dX1_layOut_39 : decode cX1_layOut 39 = .ok (.aload_n 0, 1) := by decide +kernel
theorem dX1_layOut_40 : decode cX1_layOut 40 = .ok (.getfield 43, 3) := by decide +kernel
theorem dX1_layOut_43 : decode cX1_layOut 43 = .ok (.iload_n 1, 1) := by decide +kernel
theorem dX1_layOut_44 : decode cX1_layOut 44 = .ok (.iaload, 1) := by decide +kernel
theorem dX1_layOut_45 : decode cX1_layOut 45 = .ok (.iaload, 1) := by decide +kernel
theorem dX1_layOut_46 : decode cX1_layOut 46 = .ok (.aload_n 0, 1) := by decide +kernel
theorem dX1_layOut_47 : decode cX1_layOut 47 = .ok (.getfield 43, 3) := by decide +kernel
theorem dX1_layOut_50 : decode cX1_layOut 50 = .ok (.iload_n 1, 1) := by decide +kernel
theorem dX1_layOut_51 : decode cX1_layOut 51 = .ok (.iaload, 1) := by decide +kernel
theorem dX1_layOut_52 : decode cX1_layOut 52 = .ok (.iastore, 1) := by decide +kernel
theorem dX1_layOut_53 : decode cX1_layOut 53 = .ok (.iinc 1 1, 3) := by decide +kernel
theorem dX1_layOut_56 : decode cX1_layOut 56 = .ok (.goto (-33), 3) := by decide +kernel
theorem dX1_layOut_59 : decode cX1_layOut 59 = .ok (.aload_n 0, 1) := by decide +kernel
theorem dX1_layOut_60 : decode cX1_layOut 60 = .ok (.iconst 0, 1) := by decide +kernel
theorem dX1_layOut_61 : decode cX1_layOut 61 = .ok (.aload_n 0, 1) := by decide +kernel
theorem dX1_layOut_62 : decode cX1_layOut 62 = .ok (.getfield 19, 3) := by decide +kernel
theorem dX1_layOut_65 : decode cX1_layOut 65 = .ok (.iconst 0, 1) := by decide +kernel
theorem dX1_layOut_66 : decode cX1_layOut 66 = .ok (.iaload, 1) := by decide +kernel
theorem dX1_layOut_67 : decode cX1_layOut 67 = .ok (.aload_n 0, 1) := by decide +kernel
theorem dX1_layOut_68 : decode cX1_layOut 68 = .ok (.getfield 40, 3) := by decide +kernel
theorem dX1_layOut_71 : decode cX1_layOut 71 = .ok (.invokevirtual 78, 3) := by decide +kernel
theorem dX1_layOut_74 : decode cX1_layOut 74 = .ok (.aload_n 0, 1) := by decide +kernel
theorem dX1_layOut_75 : decode cX1_layOut 75 = .ok (.aload_n 0, 1) := by decide +kernel
theorem dX1_layOut_76 : decode cX1_layOut 76 = .ok (.getfield 19, 3) := by decide +kernel
theorem dX1_layOut_79 : decode cX1_layOut 79 = .ok (.iconst 0, 1) := by decide +kernel
theorem dX1_layOut_80 : decode cX1_layOut 80 = .ok (.iaload, 1) := by decide +kernel
theorem dX1_layOut_81 : decode cX1_layOut 81 = .ok (.aload_n 0, 1) := by decide +kernel
theorem dX1_layOut_82 : decode cX1_layOut 82 = .ok (.getfield 75, 3) := by decide +kernel
theorem dX1_layOut_85 : decode cX1_layOut 85 = .ok (.aload_n 0, 1) := by decide +kernel
theorem dX1_layOut_86 : decode cX1_layOut 86 = .ok (.getfield 40, 3) := by decide +kernel
theorem dX1_layOut_89 : decode cX1_layOut 89 = .ok (.invokevirtual 78, 3) := by decide +kernel
theorem dX1_layOut_92 : decode cX1_layOut 92 = .ok (.return_, 1) := by decide +kernel
theorem dX1_lay_0 : decode cX1_lay 0 = .ok (.aload_n 0, 1) := by decide +kernel
theorem dX1_lay_1 : decode cX1_lay 1 = .ok (.iload_n 1, 1) := by decide +kernel
theorem dX1_lay_2 : decode cX1_lay 2 = .ok (.putfield 46, 3) := by decide +kernel
theorem dX1_lay_5 : decode cX1_lay 5 = .ok (.aload_n 0, 1) := by decide +kernel
theorem dX1_lay_6 : decode cX1_lay 6 = .ok (.iload_n 2, 1) := by decide +kernel
theorem dX1_lay_7 : decode cX1_lay 7 = .ok (.putfield 50, 3) := by decide +kernel
theorem dX1_lay_10 : decode cX1_lay 10 = .ok (.aload_n 0, 1) := by decide +kernel
theorem dX1_lay_11 : decode cX1_lay 11 = .ok (.iload_n 1, 1) := by decide +kernel
theorem dX1_lay_12 : decode cX1_lay 12 = .ok (.iload_n 2, 1) := by decide +kernel
theorem dX1_lay_13 : decode cX1_lay 13 = .ok (.imul, 1) := by decide +kernel
theorem dX1_lay_14 : decode cX1_lay 14 = .ok (.putfield 53, 3) := by decide +kernel
theorem dX1_lay_17 : decode cX1_lay 17 = .ok (.aload_n 0, 1) := by decide +kernel
theorem dX1_lay_18 : decode cX1_lay 18 = .ok (.getfield 25, 3) := by decide +kernel
theorem dX1_lay_21 : decode cX1_lay 21 = .ok (.iconst 0, 1) := by decide +kernel
theorem dX1_lay_22 : decode cX1_lay 22 = .ok (.aload_n 0, 1) := by decide +kernel
theorem dX1_lay_23 : decode cX1_lay 23 = .ok (.getfield 53, 3) := by decide +kernel
theorem dX1_lay_26 : decode cX1_lay 26 = .ok (.iconst 1, 1) := by decide +kernel
theorem dX1_lay_27 : decode cX1_lay 27 = .ok (.ishr, 1) := by decide +kernel
theorem dX1_lay_28 : decode cX1_lay 28 = .ok (.iastore, 1) := by decide +kernel
theorem dX1_lay_29 : decode cX1_lay 29 = .ok (.aload_n 0, 1) := by decide +kernel
theorem dX1_lay_30 : decode cX1_lay 30 = .ok (.getfield 22, 3) := by decide +kernel
theorem dX1_lay_33 : decode cX1_lay 33 = .ok (.iconst 1, 1) := by decide +kernel
theorem dX1_lay_34 : decode cX1_lay 34 = .ok (.aload_n 0, 1) := by decide +kernel
theorem dX1_lay_35 : decode cX1_lay 35 = .ok (.getfield 53, 3) := by decide +kernel
theorem dX1_lay_38 : decode cX1_lay 38 = .ok (.iconst 1, 1) := by decide +kernel
theorem dX1_lay_39 : decode cX1_lay 39 = .ok (.ishr, 1) := by decide +kernel
theorem dX1_lay_40 : decode cX1_lay 40 = .ok (.iastore, 1) := by decide +kernel
theorem dX1_lay_41 : decode cX1_lay 41 = .ok (.aload_n 0, 1) := by decide +kernel
theorem dX1_lay_42 : decode cX1_lay 42 = .ok (.getfield 25, 3) := by decide +kernel
theorem dX1_lay_45 : decode cX1_lay 45 = .ok (.iconst 1, 1) := by decide +kernel
theorem dX1_lay_46 : decode cX1_lay 46 = .ok (.aload_n 0, 1) := by decide +kernel
theorem dX1_lay_47 : decode cX1_lay 47 = .ok (.getfield 53, 3) := by decide +kernel
theorem dX1_lay_50 : decode cX1_lay 50 = .ok (.iastore, 1) := by decide +kernel
theorem dX1_lay_51 : decode cX1_lay 51 = .ok (.iconst 0, 1) := by decide +kernel
theorem dX1_lay_52 : decode cX1_lay 52 = .ok (.istore_n 3, 1) := by decide +kernel
theorem dX1_lay_53 : decode cX1_lay 53 = .ok (.iload_n 3, 1) := by decide +kernel
theorem dX1_lay_54 : decode cX1_lay 54 = .ok (.aload_n 0, 1) := by decide +kernel
theorem dX1_lay_55 : decode cX1_lay 55 = .ok (.getfield 53, 3) := by decide +kernel
theorem dX1_lay_58 : decode cX1_lay 58 = .ok (.if_icmp .ge 37, 3) := by decide +kernel
theorem dX1_lay_61 : decode cX1_lay 61 = .ok (.aload_n 0, 1) := by decide +kernel
theorem dX1_lay_62 : decode cX1_lay 62 = .ok (.getfield 9, 3) := by decide +kernel
theorem dX1_lay_65 : decode cX1_lay 65 = .ok (.iload_n 3, 1) := by decide +kernel
theorem dX1_lay_66 : decode cX1_lay 66 = .ok (.iconst 0, 1) := by decide +kernel
theorem dX1_lay_67 : decode cX1_lay 67 = .ok (.bastore, 1) := by decide +kernel
theorem dX1_lay_68 : decode cX1_lay 68 = .ok (.aload_n 0, 1) := by decide +kernel
theorem dX1_lay_69 : decode cX1_lay 69 = .ok (.getfield 28, 3) := by decide +kernel
theorem dX1_lay_72 : decode cX1_lay 72 = .ok (.iload_n 3, 1) := by decide +kernel
theorem dX1_lay_73 : decode cX1_lay 73 = .ok (.iload_n 3, 1) := by decide +kernel
theorem dX1_lay_74 : decode cX1_lay 74 = .ok (.aload_n 0, 1) := by decide +kernel
theorem dX1_lay_75 : decode cX1_lay 75 = .ok (.getfield 22, 3) := by decide +kernel
theorem dX1_lay_78 : decode cX1_lay 78 = .ok (.iconst 1, 1) := by decide +kernel
theorem dX1_lay_79 : decode cX1_lay 79 = .ok (.iaload, 1) := by decide +kernel
theorem dX1_lay_80 : decode cX1_lay 80 = .ok (.if_icmp .ge 7, 3) := by decide +kernel
theorem dX1_lay_83 : decode cX1_lay 83 = .ok (.iconst 0, 1) := by decide +kernel
theorem dX1_lay_84 : decode cX1_lay 84 = .ok (.goto 4, 3) := by decide +kernel
theorem dX1_lay_87 : decode cX1_lay 87 = .ok (.iconst 1, 1) := by decide +kernel
theorem dX1_lay_88 : decode cX1_lay 88 = .ok (.iastore, 1) := by decide +kernel
theorem dX1_lay_89 : decode cX1_lay 89 = .ok (.iinc 3 1, 3) := by decide +kernel
theorem dX1_lay_92 : decode cX1_lay 92 = .ok (.goto (-39), 3) := by decide +kernel
theorem dX1_lay_95 : decode cX1_lay 95 = .ok (.aload_n 0, 1) := by decide +kernel
theorem dX1_lay_96 : decode cX1_lay 96 = .ok (.invokevirtual 56, 3) := by decide +kernel
theorem dX1_lay_99 : decode cX1_lay 99 = .ok (.return_, 1) := by decide +kernel
theorem dX1_takeOut_0 : decode cX1_takeOut 0 = .ok (.aload_n 0, 1) := by decide +kernel
theorem dX1_takeOut_1 : decode cX1_takeOut 1 = .ok (.getfield 9, 3) := by decide +kernel
theorem dX1_takeOut_4 : decode cX1_takeOut 4 = .ok (.iload_n 1, 1) := by decide +kernel
theorem dX1_takeOut_5 : decode cX1_takeOut 5 = .ok (.iconst 1, 1) := by decide +kernel
theorem dX1_takeOut_6 : decode cX1_takeOut 6 = .ok (.bastore, 1) := by decide +kernel
theorem dX1_takeOut_7 : decode cX1_takeOut 7 = .ok (.aload_n 0, 1) := by decide +kernel
theorem dX1_takeOut_8 : decode cX1_takeOut 8 = .ok (.invokevirtual 56, 3) := by decide +kernel
theorem dX1_takeOut_11 : decode cX1_takeOut 11 = .ok (.return_, 1) := by decide +kernel
theorem dX1_pitsOfGreaterSide_0 : decode cX1_pitsOfGreaterSide 0 = .ok (.aload_n 0, 1) := by decide +kernel
theorem dX1_pitsOfGreaterSide_1 : decode cX1_pitsOfGreaterSide 1 = .ok (.getfield 19, 3) := by decide +kernel
theorem dX1_pitsOfGreaterSide_4 : decode cX1_pitsOfGreaterSide 4 = .ok (.iconst 0, 1) := by decide +kernel
theorem dX1_pitsOfGreaterSide_5 : decode cX1_pitsOfGreaterSide 5 = .ok (.iaload, 1) := by decide +kernel
theorem dX1_pitsOfGreaterSide_6 : decode cX1_pitsOfGreaterSide 6 = .ok (.aload_n 0, 1) := by decide +kernel
theorem dX1_pitsOfGreaterSide_7 : decode cX1_pitsOfGreaterSide 7 = .ok (.getfield 19, 3) := by decide +kernel
theorem dX1_pitsOfGreaterSide_10 : decode cX1_pitsOfGreaterSide 10 = .ok (.iconst 1, 1) := by decide +kernel
theorem dX1_pitsOfGreaterSide_11 : decode cX1_pitsOfGreaterSide 11 = .ok (.iaload, 1) := by decide +kernel
theorem dX1_pitsOfGreaterSide_12 : decode cX1_pitsOfGreaterSide 12 = .ok (.invokestatic 59, 3) := by decide +kernel
theorem dX1_pitsOfGreaterSide_15 : decode cX1_pitsOfGreaterSide 15 = .ok (.ireturn, 1) := by decide +kernel
theorem dX2_init_0 : decode cX2_init 0 = .ok (.aload_n 0, 1) := by decide +kernel
theorem dX2_init_1 : decode cX2_init 1 = .ok (.invokespecial 3, 3) := by decide +kernel
theorem dX2_init_4 : decode cX2_init 4 = .ok (.aload_n 0, 1) := by decide +kernel
theorem dX2_init_5 : decode cX2_init 5 = .ok (.iconst (-1), 1) := by decide +kernel
theorem dX2_init_6 : decode cX2_init 6 = .ok (.putfield 9, 3) := by decide +kernel
theorem dX2_init_9 : decode cX2_init 9 = .ok (.aload_n 0, 1) := by decide +kernel
theorem dX2_init_10 : decode cX2_init 10 = .ok (.sipush 400, 3) := by decide +kernel
theorem dX2_init_13 : decode cX2_init 13 = .ok (.newarray .int, 2) := by decide +kernel
theorem dX2_init_15 : decode cX2_init 15 = .ok (.putfield 15, 3) := by decide +kernel
theorem dX2_init_18 : decode cX2_init 18 = .ok (.aload_n 0, 1) := by decide +kernel
theorem dX2_init_19 : decode cX2_init 19 = .ok (.sipush 401, 3) := by decide +kernel
theorem dX2_init_22 : decode cX2_init 22 = .ok (.newarray .int, 2) := by decide +kernel
theorem dX2_init_24 : decode cX2_init 24 = .ok (.putfield 19, 3) := by decide +kernel
theorem dX2_init_27 : decode cX2_init 27 = .ok (.return_, 1) := by decide +kernel
theorem dX2_clear_0 : decode cX2_clear 0 = .ok (.aload_n 0, 1) := by decide +kernel
theorem dX2_clear_1 : decode cX2_clear 1 = .ok (.iconst 0, 1) := by decide +kernel
theorem dX2_clear_2 : decode cX2_clear 2 = .ok (.putfield 22, 3) := by decide +kernel
theorem dX2_clear_5 : decode cX2_clear 5 = .ok (.aload_n 0, 1) := by decide +kernel
theorem dX2_clear_6 : decode cX2_clear 6 = .ok (.iconst 0, 1) := by decide +kernel
theorem dX2_clear_7 : decode cX2_clear 7 = .ok (.putfield 26, 3) := by decide +kernel
theorem dX2_clear_10 : decode cX2_clear 10 = .ok (.aload_n 0, 1) := by decide +kernel
theorem dX2_clear_11 : decode cX2_clear 11 = .ok (.iconst (-1), 1) := by decide +kernel
theorem dX2_clear_12 : decode cX2_clear 12 = .ok (.putfield 9, 3) := by decide +kernel
theorem dX2_clear_15 : decode cX2_clear 15 = .ok (.return_, 1) := by decide +kernel
theorem dX9_reachOf_0 : decode cX9_reachOf 0 = .ok (.iload_n 1, 1) := by decide +kernel
theorem dX9_reachOf_1 : decode cX9_reachOf 1 = .ok (.invokestatic 96, 3) := by decide +kernel
theorem dX9_reachOf_4 : decode cX9_reachOf 4 = .ok (.aload_n 0, 1) := by decide +kernel
theorem dX9_reachOf_5 : decode cX9_reachOf 5 = .ok (.getfield 9, 3) := by decide +kernel
theorem dX9_reachOf_8 : decode cX9_reachOf 8 = .ok (.iload_n 1, 1) := by decide +kernel
theorem dX9_reachOf_9 : decode cX9_reachOf 9 = .ok (.invokestatic 100, 3) := by decide +kernel
theorem dX9_reachOf_12 : decode cX9_reachOf 12 = .ok (.iaload, 1) := by decide +kernel
theorem dX9_reachOf_13 : decode cX9_reachOf 13 = .ok (.isub, 1) := by decide +kernel
theorem dX9_reachOf_14 : decode cX9_reachOf 14 = .ok (.ireturn, 1) := by decide +kernel
theorem dX9_goesForward_0 : decode cX9_goesForward 0 = .ok (.iload_n 0, 1) := by decide +kernel
theorem dX9_goesForward_1 : decode cX9_goesForward 1 = .ok (.invokestatic 96, 3) := by decide +kernel
theorem dX9_goesForward_4 : decode cX9_goesForward 4 = .ok (.ifCond .gt 15, 3) := by decide +kernel
theorem dX9_goesForward_7 : decode cX9_goesForward 7 = .ok (.aload_n 2, 1) := by decide +kernel
theorem dX9_goesForward_8 : decode cX9_goesForward 8 = .ok (.iload_n 0, 1) := by decide +kernel
theorem dX9_goesForward_9 : decode cX9_goesForward 9 = .ok (.invokestatic 100, 3) := by decide +kernel
theorem dX9_goesForward_12 : decode cX9_goesForward 12 = .ok (.iaload, 1) := by decide +kernel
theorem dX9_goesForward_13 : decode cX9_goesForward 13 = .ok (.aload_n 2, 1) := by decide +kernel
theorem dX9_goesForward_14 : decode cX9_goesForward 14 = .ok (.iload_n 1, 1) := by decide +kernel
theorem dX9_goesForward_15 : decode cX9_goesForward 15 = .ok (.iaload, 1) := by decide +kernel
theorem dX9_goesForward_16 : decode cX9_goesForward 16 = .ok (.if_icmp .ge 7, 3) := by decide +kernel
theorem dX9_goesForward_19 : decode cX9_goesForward 19 = .ok (.iconst 1, 1) := by decide +kernel
theorem dX9_goesForward_20 : decode cX9_goesForward 20 = .ok (.goto 4, 3) := by decide +kernel
theorem dX9_goesForward_23 : decode cX9_goesForward 23 = .ok (.iconst 0, 1) := by decide +kernel
theorem dX9_goesForward_24 : decode cX9_goesForward 24 = .ok (.ireturn, 1) := by decide +kernel
theorem dX9_bestEdge_0 : decode cX9_bestEdge 0 = .ok (.aload_n 0, 1) := by decide +kernel
theorem dX9_bestEdge_1 : decode cX9_bestEdge 1 = .ok (.getfield 41, 3) := by decide +kernel
theorem dX9_bestEdge_4 : decode cX9_bestEdge 4 = .ok (.getfield 103, 3) := by decide +kernel
theorem dX9_bestEdge_7 : decode cX9_bestEdge 7 = .ok (.iload_n 1, 1) := by decide +kernel
theorem dX9_bestEdge_8 : decode cX9_bestEdge 8 = .ok (.iaload, 1) := by decide +kernel
theorem dX9_bestEdge_9 : decode cX9_bestEdge 9 = .ok (.istore_n 2, 1) := by decide +kernel
theorem dX9_bestEdge_10 : decode cX9_bestEdge 10 = .ok (.iload_n 2, 1) := by decide +kernel
theorem dX9_bestEdge_11 : decode cX9_bestEdge 11 = .ok (.aload_n 0, 1) := by decide +kernel
theorem dX9_bestEdge_12 : decode cX9_bestEdge 12 = .ok (.getfield 41, 3) := by decide +kernel
theorem dX9_bestEdge_15 : decode cX9_bestEdge 15 = .ok (.getfield 103, 3) := by decide +kernel
theorem dX9_bestEdge_18 : decode cX9_bestEdge 18 = .ok (.iload_n 1, 1) := by decide +kernel
theorem dX9_bestEdge_19 : decode cX9_bestEdge 19 = .ok (.iconst 1, 1) := by decide +kernel
theorem dX9_bestEdge_20 : decode cX9_bestEdge 20 = .ok (.iadd, 1) := by decide +kernel
theorem dX9_bestEdge_21 : decode cX9_bestEdge 21 = .ok (.iaload, 1) := by decide +kernel
theorem dX9_bestEdge_22 : decode cX9_bestEdge 22 = .ok (.if_icmp .ge 56, 3) := by decide +kernel
theorem dX9_bestEdge_25 : decode cX9_bestEdge 25 = .ok (.aload_n 0, 1) := by decide +kernel
theorem dX9_bestEdge_26 : decode cX9_bestEdge 26 = .ok (.getfield 41, 3) := by decide +kernel
theorem dX9_bestEdge_29 : decode cX9_bestEdge 29 = .ok (.getfield 106, 3) := by decide +kernel
theorem dX9_bestEdge_32 : decode cX9_bestEdge 32 = .ok (.iload_n 2, 1) := by decide +kernel
theorem dX9_bestEdge_33 : decode cX9_bestEdge 33 = .ok (.iaload, 1) := by decide +kernel
theorem dX9_bestEdge_34 : decode cX9_bestEdge 34 = .ok (.istore_n 3, 1) := by decide +kernel
theorem dX9_bestEdge_35 : decode cX9_bestEdge 35 = .ok (.aload_n 0, 1) := by decide +kernel
theorem dX9_bestEdge_36 : decode cX9_bestEdge 36 = .ok (.iload_n 3, 1) := by decide +kernel
theorem dX9_bestEdge_37 : decode cX9_bestEdge 37 = .ok (.invokevirtual 109, 3) := by decide +kernel
theorem dX9_bestEdge_40 : decode cX9_bestEdge 40 = .ok (.aload_n 0, 1) := by decide +kernel
theorem dX9_bestEdge_41 : decode cX9_bestEdge 41 = .ok (.getfield 9, 3) := by decide +kernel
theorem dX9_bestEdge_44 : decode cX9_bestEdge 44 = .ok (.iload_n 1, 1) := by decide +kernel
theorem dX9_bestEdge_45 : decode cX9_bestEdge 45 = .ok (.iaload, 1) := by decide +kernel
theorem dX9_bestEdge_46 : decode cX9_bestEdge 46 = .ok (.if_icmp .ne 26, 3) := by decide +kernel
theorem dX9_bestEdge_49 : decode cX9_bestEdge 49 = .ok (.aload_n 0, 1) := by decide +kernel
theorem dX9_bestEdge_50 : decode cX9_bestEdge 50 = .ok (.getfield 9, 3) := by decide +kernel
theorem dX9_bestEdge_53 : decode cX9_bestEdge 53 = .ok (.iload_n 1, 1) := by decide +kernel
theorem dX9_bestEdge_54 : decode cX9_bestEdge 54 = .ok (.iaload, 1) := by decide +kernel
theorem dX9_bestEdge_55 : decode cX9_bestEdge 55 = .ok (.ifCond .le 15, 3) := by decide +kernel
theorem dX9_bestEdge_58 : decode cX9_bestEdge 58 = .ok (.iload_n 3, 1) := by decide +kernel
theorem dX9_bestEdge_59 : decode cX9_bestEdge 59 = .ok (.iload_n 1, 1) := by decide +kernel
theorem dX9_bestEdge_60 : decode cX9_bestEdge 60 = .ok (.aload_n 0, 1) := by decide +kernel
theorem dX9_bestEdge_61 : decode cX9_bestEdge 61 = .ok (.getfield 15, 3) := by decide +kernel
theorem dX9_bestEdge_64 : decode cX9_bestEdge 64 = .ok (.invokestatic 112, 3) := by decide +kernel
theorem dX9_bestEdge_67 : decode cX9_bestEdge 67 = .ok (.ifCond .eq 5, 3) := by decide +kernel
theorem dX9_bestEdge_70 : decode cX9_bestEdge 70 = .ok (.iload_n 3, 1) := by decide +kernel
theorem dX9_bestEdge_71 : decode cX9_bestEdge 71 = .ok (.ireturn, 1) := by decide +kernel
theorem dX9_bestEdge_72 : decode cX9_bestEdge 72 = .ok (.iinc 2 1, 3) := by decide +kernel
theorem dX9_bestEdge_75 : decode cX9_bestEdge 75 = .ok (.goto (-65), 3) := by decide +kernel
theorem dX9_bestEdge_78 : decode cX9_bestEdge 78 = .ok (.iconst (-1), 1) := by decide +kernel
theorem dX9_bestEdge_79 : decode cX9_bestEdge 79 = .ok (.ireturn, 1) := by decide +kernel
theorem dX2_indexOf_0 : decode cX2_indexOf 0 = .ok (.iconst 0, 1) := by decide +kernel
theorem dX2_indexOf_1 : decode cX2_indexOf 1 = .ok (.istore_n 2, 1) := by decide +kernel
theorem dX2_indexOf_2 : decode cX2_indexOf 2 = .ok (.iload_n 2, 1) := by decide +kernel
theorem dX2_indexOf_3 : decode cX2_indexOf 3 = .ok (.aload_n 0, 1) := by decide +kernel
theorem dX2_indexOf_4 : decode cX2_indexOf 4 = .ok (.getfield 26, 3) := by decide +kernel
theorem dX2_indexOf_7 : decode cX2_indexOf 7 = .ok (.if_icmp .ge 21, 3) := by decide +kernel
theorem dX2_indexOf_10 : decode cX2_indexOf 10 = .ok (.aload_n 0, 1) := by decide +kernel
theorem dX2_indexOf_11 : decode cX2_indexOf 11 = .ok (.getfield 19, 3) := by decide +kernel
theorem dX2_indexOf_14 : decode cX2_indexOf 14 = .ok (.iload_n 2, 1) := by decide +kernel
theorem dX2_indexOf_15 : decode cX2_indexOf 15 = .ok (.iaload, 1) := by decide +kernel
theorem dX2_indexOf_16 : decode cX2_indexOf 16 = .ok (.iload_n 1, 1) := by decide +kernel
theorem dX2_indexOf_17 : decode cX2_indexOf 17 = .ok (.if_icmp .ne 5, 3) := by decide +kernel
theorem dX2_indexOf_20 : decode cX2_indexOf 20 = .ok (.iload_n 2, 1) := by decide +kernel
theorem dX2_indexOf_21 : decode cX2_indexOf 21 = .ok (.ireturn, 1) := by decide +kernel
theorem dX2_indexOf_22 : decode cX2_indexOf 22 = .ok (.iinc 2 1, 3) := by decide +kernel
theorem dX2_indexOf_25 : decode cX2_indexOf 25 = .ok (.goto (-23), 3) := by decide +kernel
theorem dX2_indexOf_28 : decode cX2_indexOf 28 = .ok (.iconst (-1), 1) := by decide +kernel
theorem dX2_indexOf_29 : decode cX2_indexOf 29 = .ok (.ireturn, 1) := by decide +kernel
theorem dX2_follow_0 : decode cX2_follow 0 = .ok (.aload_n 0, 1) := by decide +kernel
theorem dX2_follow_1 : decode cX2_follow 1 = .ok (.invokevirtual 29, 3) := by decide +kernel
theorem dX2_follow_4 : decode cX2_follow 4 = .ok (.aload_n 0, 1) := by decide +kernel
theorem dX2_follow_5 : decode cX2_follow 5 = .ok (.iconst 1, 1) := by decide +kernel
theorem dX2_follow_6 : decode cX2_follow 6 = .ok (.putfield 22, 3) := by decide +kernel
theorem dX2_follow_9 : decode cX2_follow 9 = .ok (.iload_n 2, 1) := by decide +kernel
theorem dX2_follow_10 : decode cX2_follow 10 = .ok (.istore_n 3, 1) := by decide +kernel
theorem dX2_follow_11 : decode cX2_follow 11 = .ok (.aload_n 0, 1) := by decide +kernel
theorem dX2_follow_12 : decode cX2_follow 12 = .ok (.getfield 19, 3) := by decide +kernel
theorem dX2_follow_15 : decode cX2_follow 15 = .ok (.iconst 0, 1) := by decide +kernel
theorem dX2_follow_16 : decode cX2_follow 16 = .ok (.iload_n 2, 1) := by decide +kernel
theorem dX2_follow_17 : decode cX2_follow 17 = .ok (.iastore, 1) := by decide +kernel
theorem dX2_follow_18 : decode cX2_follow 18 = .ok (.aload_n 0, 1) := by decide +kernel
theorem dX2_follow_19 : decode cX2_follow 19 = .ok (.getfield 26, 3) := by decide +kernel
theorem dX2_follow_22 : decode cX2_follow 22 = .ok (.sipush 400, 3) := by decide +kernel
theorem dX2_follow_25 : decode cX2_follow 25 = .ok (.if_icmp .ge 75, 3) := by decide +kernel
theorem dX2_follow_28 : decode cX2_follow 28 = .ok (.aload_n 0, 1) := by decide +kernel
theorem dX2_follow_29 : decode cX2_follow 29 = .ok (.getfield 9, 3) := by decide +kernel
theorem dX2_follow_32 : decode cX2_follow 32 = .ok (.ifCond .ge 68, 3) := by decide +kernel
theorem dX2_follow_35 : decode cX2_follow 35 = .ok (.aload_n 1, 1) := by decide +kernel
theorem dX2_follow_36 : decode cX2_follow 36 = .ok (.iload_n 3, 1) := by decide +kernel
theorem dX2_follow_37 : decode cX2_follow 37 = .ok (.invokevirtual 32, 3) := by decide +kernel
theorem dX2_follow_40 : decode cX2_follow 40 = .ok (.istore 4, 2) := by decide +kernel
theorem dX2_follow_42 : decode cX2_follow 42 = .ok (.iload 4, 2) := by decide +kernel
theorem dX2_follow_44 : decode cX2_follow 44 = .ok (.ifCond .ge 4, 3) := by decide +kernel
theorem dX2_follow_47 : decode cX2_follow 47 = .ok (.return_, 1) := by decide +kernel
theorem dX2_follow_48 : decode cX2_follow 48 = .ok (.iload 4, 2) := by decide +kernel
theorem dX2_follow_50 : decode cX2_follow 50 = .ok (.invokestatic 38, 3) := by decide +kernel
theorem dX2_follow_53 : decode cX2_follow 53 = .ok (.istore_n 3, 1) := by decide +kernel
theorem dX2_follow_54 : decode cX2_follow 54 = .ok (.aload_n 0, 1) := by decide +kernel
theorem dX2_follow_55 : decode cX2_follow 55 = .ok (.getfield 15, 3) := by decide +kernel
theorem dX2_follow_58 : decode cX2_follow 58 = .ok (.aload_n 0, 1) := by decide +kernel
theorem dX2_follow_59 : decode cX2_follow 59 = .ok (.getfield 26, 3) := by decide +kernel
theorem dX2_follow_62 : decode cX2_follow 62 = .ok (.iload 4, 2) := by decide +kernel
theorem dX2_follow_64 : decode cX2_follow 64 = .ok (.invokestatic 43, 3) := by decide +kernel
theorem dX2_follow_67 : decode cX2_follow 67 = .ok (.iastore, 1) := by decide +kernel
theorem dX2_follow_68 : decode cX2_follow 68 = .ok (.aload_n 0, 1) := by decide +kernel
theorem dX2_follow_69 : decode cX2_follow 69 = .ok (.dup, 1) := by decide +kernel
theorem dX2_follow_70 : decode cX2_follow 70 = .ok (.getfield 26, 3) := by decide +kernel
theorem dX2_follow_73 : decode cX2_follow 73 = .ok (.iconst 1, 1) := by decide +kernel
theorem dX2_follow_74 : decode cX2_follow 74 = .ok (.iadd, 1) := by decide +kernel
theorem dX2_follow_75 : decode cX2_follow 75 = .ok (.putfield 26, 3) := by decide +kernel
theorem dX2_follow_78 : decode cX2_follow 78 = .ok (.aload_n 0, 1) := by decide +kernel
theorem dX2_follow_79 : decode cX2_follow 79 = .ok (.aload_n 0, 1) := by decide +kernel
theorem dX2_follow_80 : decode cX2_follow 80 = .ok (.iload_n 3, 1) := by decide +kernel
theorem dX2_follow_81 : decode cX2_follow 81 = .ok (.invokevirtual 46, 3) := by decide +kernel
theorem dX2_follow_84 : decode cX2_follow 84 = .ok (.putfield 9, 3) := by decide +kernel
theorem dX2_follow_87 : decode cX2_follow 87 = .ok (.aload_n 0, 1) := by decide +kernel
theorem dX2_follow_88 : decode cX2_follow 88 = .ok (.getfield 19, 3) := by decide +kernel
theorem dX2_follow_91 : decode cX2_follow 91 = .ok (.aload_n 0, 1) := by decide +kernel
theorem dX2_follow_92 : decode cX2_follow 92 = .ok (.getfield 26, 3) := by decide +kernel
theorem dX2_follow_95 : decode cX2_follow 95 = .ok (.iload_n 3, 1) := by decide +kernel
theorem dX2_follow_96 : decode cX2_follow 96 = .ok (.iastore, 1) := by decide +kernel
theorem dX2_follow_97 : decode cX2_follow 97 = .ok (.goto (-79), 3) := by decide +kernel
theorem dX2_follow_100 : decode cX2_follow 100 = .ok (.return_, 1) := by decide +kernel
theorem dX3_init_0 : decode cX3_init 0 = .ok (.aload_n 0, 1) := by decide +kernel
theorem dX3_init_1 : decode cX3_init 1 = .ok (.invokespecial 3, 3) := by decide +kernel
theorem dX3_init_4 : decode cX3_init 4 = .ok (.aload_n 0, 1) := by decide +kernel
theorem dX3_init_5 : decode cX3_init 5 = .ok (.sipush 442, 3) := by decide +kernel
theorem dX3_init_8 : decode cX3_init 8 = .ok (.newarray .long, 2) := by decide +kernel
theorem dX3_init_10 : decode cX3_init 10 = .ok (.putfield 11, 3) := by decide +kernel
theorem dX3_init_13 : decode cX3_init 13 = .ok (.aload_n 0, 1) := by decide +kernel
theorem dX3_init_14 : decode cX3_init 14 = .ok (.bipush 32, 2) := by decide +kernel
theorem dX3_init_16 : decode cX3_init 16 = .ok (.newarray .int, 2) := by decide +kernel
theorem dX3_init_18 : decode cX3_init 18 = .ok (.putfield 15, 3) := by decide +kernel
theorem dX3_init_21 : decode cX3_init 21 = .ok (.aload_n 0, 1) := by decide +kernel
theorem dX3_init_22 : decode cX3_init 22 = .ok (.aload_n 1, 1) := by decide +kernel
theorem dX3_init_23 : decode cX3_init 23 = .ok (.putfield 19, 3) := by decide +kernel
theorem dX3_init_26 : decode cX3_init 26 = .ok (.aload_n 0, 1) := by decide +kernel
theorem dX3_init_27 : decode cX3_init 27 = .ok (.getfield 11, 3) := by decide +kernel
theorem dX3_init_30 : decode cX3_init 30 = .ok (.iconst 0, 1) := by decide +kernel
theorem dX3_init_31 : decode cX3_init 31 = .ok (.lconst 1, 1) := by decide +kernel
theorem dX3_init_32 : decode cX3_init 32 = .ok (.lastore, 1) := by decide +kernel
theorem dX3_init_33 : decode cX3_init 33 = .ok (.bipush 13, 2) := by decide +kernel
theorem dX3_init_35 : decode cX3_init 35 = .ok (.istore_n 2, 1) := by decide +kernel
theorem dX3_init_36 : decode cX3_init 36 = .ok (.iload_n 2, 1) := by decide +kernel
theorem dX3_init_37 : decode cX3_init 37 = .ok (.aload_n 0, 1) := by decide +kernel
theorem dX3_init_38 : decode cX3_init 38 = .ok (.getfield 11, 3) := by decide +kernel
theorem dX3_init_41 : decode cX3_init 41 = .ok (.arraylength, 1) := by decide +kernel
theorem dX3_init_42 : decode cX3_init 42 = .ok (.if_icmp .ge 44, 3) := by decide +kernel
theorem dX3_init_45 : decode cX3_init 45 = .ok (.aload_n 0, 1) := by decide +kernel
theorem dX3_init_46 : decode cX3_init 46 = .ok (.getfield 11, 3) := by decide +kernel
theorem dX3_init_49 : decode cX3_init 49 = .ok (.iload_n 2, 1) := by decide +kernel
theorem dX3_init_50 : decode cX3_init 50 = .ok (.aload_n 0, 1) := by decide +kernel
theorem dX3_init_51 : decode cX3_init 51 = .ok (.getfield 11, 3) := by decide +kernel
theorem dX3_init_54 : decode cX3_init 54 = .ok (.iload_n 2, 1) := by decide +kernel
theorem dX3_init_55 : decode cX3_init 55 = .ok (.bipush 13, 2) := by decide +kernel
theorem dX3_init_57 : decode cX3_init 57 = .ok (.isub, 1) := by decide +kernel
theorem dX3_init_58 : decode cX3_init 58 = .ok (.laload, 1) := by decide +kernel
theorem dX3_init_59 : decode cX3_init 59 = .ok (.iload_n 2, 1) := by decide +kernel
theorem dX3_init_60 : decode cX3_init 60 = .ok (.bipush 13, 2) := by decide +kernel
theorem dX3_init_62 : decode cX3_init 62 = .ok (.irem, 1) := by decide +kernel
theorem dX3_init_63 : decode cX3_init 63 = .ok (.ifCond .ne 7, 3) := by decide +kernel
theorem dX3_init_66 : decode cX3_init 66 = .ok (.lconst 0, 1) := by decide +kernel
theorem dX3_init_67 : decode cX3_init 67 = .ok (.goto 11, 3) := by decide +kernel
theorem dX3_init_70 : decode cX3_init 70 = .ok (.aload_n 0, 1) := by decide +kernel
theorem dX3_init_71 : decode cX3_init 71 = .ok (.getfield 11, 3) := by decide +kernel
theorem dX3_init_74 : decode cX3_init 74 = .ok (.iload_n 2, 1) := by decide +kernel
theorem dX3_init_75 : decode cX3_init 75 = .ok (.iconst 1, 1) := by decide +kernel
theorem dX3_init_76 : decode cX3_init 76 = .ok (.isub, 1) := by decide +kernel
theorem dX3_init_77 : decode cX3_init 77 = .ok (.laload, 1) := by decide +kernel
theorem dX3_init_78 : decode cX3_init 78 = .ok (.ladd, 1) := by decide +kernel
theorem dX3_init_79 : decode cX3_init 79 = .ok (.lastore, 1) := by decide +kernel
theorem dX3_init_80 : decode cX3_init 80 = .ok (.iinc 2 1, 3) := by decide +kernel
theorem dX3_init_83 : decode cX3_init 83 = .ok (.goto (-47), 3) := by decide +kernel
theorem dX3_init_86 : decode cX3_init 86 = .ok (.return_, 1) := by decide +kernel
theorem dX3_boardsOf_0 : decode cX3_boardsOf 0 = .ok (.aload_n 0, 1) := by decide +kernel
theorem dX3_boardsOf_1 : decode cX3_boardsOf 1 = .ok (.aload_n 0, 1) := by decide +kernel
theorem dX3_boardsOf_2 : decode cX3_boardsOf 2 = .ok (.getfield 19, 3) := by decide +kernel
theorem dX3_boardsOf_5 : decode cX3_boardsOf 5 = .ok (.getfield 23, 3) := by decide +kernel
theorem dX3_boardsOf_8 : decode cX3_boardsOf 8 = .ok (.iload_n 1, 1) := by decide +kernel
theorem dX3_boardsOf_9 : decode cX3_boardsOf 9 = .ok (.invokevirtual 29, 3) := by decide +kernel
theorem dX3_boardsOf_12 : decode cX3_boardsOf 12 = .ok (.lreturn, 1) := by decide +kernel
theorem dX3_seedsOfBoard_0 : decode cX3_seedsOfBoard 0 = .ok (.aload_n 0, 1) := by decide +kernel
theorem dX3_seedsOfBoard_1 : decode cX3_seedsOfBoard 1 = .ok (.aload_n 0, 1) := by decide +kernel
theorem dX3_seedsOfBoard_2 : decode cX3_seedsOfBoard 2 = .ok (.getfield 15, 3) := by decide +kernel
theorem dX3_seedsOfBoard_5 : decode cX3_seedsOfBoard 5 = .ok (.lload_n 1, 1) := by decide +kernel
theorem dX3_seedsOfBoard_6 : decode cX3_seedsOfBoard 6 = .ok (.invokevirtual 44, 3) := by decide +kernel
theorem dX3_seedsOfBoard_9 : decode cX3_seedsOfBoard 9 = .ok (.aload_n 0, 1) := by decide +kernel
theorem dX3_seedsOfBoard_10 : decode cX3_seedsOfBoard 10 = .ok (.getfield 15, 3) := by decide +kernel
theorem dX3_seedsOfBoard_13 : decode cX3_seedsOfBoard 13 = .ok (.aload_n 0, 1) := by decide +kernel
theorem dX3_seedsOfBoard_14 : decode cX3_seedsOfBoard 14 = .ok (.getfield 19, 3) := by decide +kernel
theorem dX3_seedsOfBoard_17 : decode cX3_seedsOfBoard 17 = .ok (.getfield 41, 3) := by decide +kernel
theorem dX3_seedsOfBoard_20 : decode cX3_seedsOfBoard 20 = .ok (.iload_n 3, 1) := by decide +kernel
theorem dX3_seedsOfBoard_21 : decode cX3_seedsOfBoard 21 = .ok (.iaload, 1) := by decide +kernel
theorem dX3_seedsOfBoard_22 : decode cX3_seedsOfBoard 22 = .ok (.iaload, 1) := by decide +kernel
theorem dX3_seedsOfBoard_23 : decode cX3_seedsOfBoard 23 = .ok (.ireturn, 1) := by decide +kernel
theorem dX4_init_0 : decode cX4_init 0 = .ok (.aload_n 0, 1) := by decide +kernel
theorem dX4_init_1 : decode cX4_init 1 = .ok (.invokespecial 3, 3) := by decide +kernel
theorem dX4_init_4 : decode cX4_init 4 = .ok (.aload_n 0, 1) := by decide +kernel
theorem dX4_init_5 : decode cX4_init 5 = .ok (.bipush 16, 2) := by decide +kernel
theorem dX4_init_7 : decode cX4_init 7 = .ok (.newarray .int, 2) := by decide +kernel
theorem dX4_init_9 : decode cX4_init 9 = .ok (.putfield 9, 3) := by decide +kernel
theorem dX4_init_12 : decode cX4_init 12 = .ok (.aload_n 0, 1) := by decide +kernel
theorem dX4_init_13 : decode cX4_init 13 = .ok (.sipush 544, 3) := by decide +kernel
theorem dX4_init_16 : decode cX4_init 16 = .ok (.newarray .int, 2) := by decide +kernel
theorem dX4_init_18 : decode cX4_init 18 = .ok (.putfield 15, 3) := by decide +kernel
theorem dX4_init_21 : decode cX4_init 21 = .ok (.return_, 1) := by decide +kernel
theorem dX4_clear_0 : decode cX4_clear 0 = .ok (.aload_n 0, 1) := by decide +kernel
theorem dX4_clear_1 : decode cX4_clear 1 = .ok (.iconst 0, 1) := by decide +kernel
theorem dX4_clear_2 : decode cX4_clear 2 = .ok (.putfield 18, 3) := by decide +kernel
theorem dX4_clear_5 : decode cX4_clear 5 = .ok (.aload_n 0, 1) := by decide +kernel
theorem dX4_clear_6 : decode cX4_clear 6 = .ok (.iconst 0, 1) := by decide +kernel
theorem dX4_clear_7 : decode cX4_clear 7 = .ok (.putfield 22, 3) := by decide +kernel
theorem dX4_clear_10 : decode cX4_clear 10 = .ok (.return_, 1) := by decide +kernel
theorem dX4_makeRoom_0 : decode cX4_makeRoom 0 = .ok (.aload_n 0, 1) := by decide +kernel
theorem dX4_makeRoom_1 : decode cX4_makeRoom 1 = .ok (.getfield 18, 3) := by decide +kernel
theorem dX4_makeRoom_4 : decode cX4_makeRoom 4 = .ok (.aload_n 0, 1) := by decide +kernel
theorem dX4_makeRoom_5 : decode cX4_makeRoom 5 = .ok (.getfield 9, 3) := by decide +kernel
theorem dX4_makeRoom_8 : decode cX4_makeRoom 8 = .ok (.arraylength, 1) := by decide +kernel
theorem dX4_makeRoom_9 : decode cX4_makeRoom 9 = .ok (.if_icmp .lt 44, 3) := by decide +kernel
theorem dX4_makeRoom_12 : decode cX4_makeRoom 12 = .ok (.iconst 2, 1) := by decide +kernel
theorem dX4_makeRoom_13 : decode cX4_makeRoom 13 = .ok (.aload_n 0, 1) := by decide +kernel
theorem dX4_makeRoom_14 : decode cX4_makeRoom 14 = .ok (.getfield 9, 3) := by decide +kernel
theorem dX4_makeRoom_17 : decode cX4_makeRoom 17 = .ok (.arraylength, 1) := by decide +kernel
theorem dX4_makeRoom_18 : decode cX4_makeRoom 18 = .ok (.imul, 1) := by decide +kernel
theorem dX4_makeRoom_19 : decode cX4_makeRoom 19 = .ok (.sipush 1000, 3) := by decide +kernel
theorem dX4_makeRoom_22 : decode cX4_makeRoom 22 = .ok (.invokestatic 49, 3) := by decide +kernel
theorem dX4_makeRoom_25 : decode cX4_makeRoom 25 = .ok (.istore_n 1, 1) := by decide +kernel
theorem dX4_makeRoom_26 : decode cX4_makeRoom 26 = .ok (.aload_n 0, 1) := by decide +kernel
theorem dX4_makeRoom_27 : decode cX4_makeRoom 27 = .ok (.aload_n 0, 1) := by decide +kernel
theorem dX4_makeRoom_28 : decode cX4_makeRoom 28 = .ok (.getfield 9, 3) := by decide +kernel
theorem dX4_makeRoom_31 : decode cX4_makeRoom 31 = .ok (.iload_n 1, 1) := by decide +kernel
theorem dX4_makeRoom_32 : decode cX4_makeRoom 32 = .ok (.invokestatic 55, 3) := by decide +kernel
theorem dX4_makeRoom_35 : decode cX4_makeRoom 35 = .ok (.putfield 9, 3) := by decide +kernel
theorem dX4_makeRoom_38 : decode cX4_makeRoom 38 = .ok (.aload_n 0, 1) := by decide +kernel
theorem dX4_makeRoom_39 : decode cX4_makeRoom 39 = .ok (.aload_n 0, 1) := by decide +kernel
theorem dX4_makeRoom_40 : decode cX4_makeRoom 40 = .ok (.getfield 15, 3) := by decide +kernel
theorem dX4_makeRoom_43 : decode cX4_makeRoom 43 = .ok (.iload_n 1, 1) := by decide +kernel
theorem dX4_makeRoom_44 : decode cX4_makeRoom 44 = .ok (.bipush 34, 2) := by decide +kernel
theorem dX4_makeRoom_46 : decode cX4_makeRoom 46 = .ok (.imul, 1) := by decide +kernel
theorem dX4_makeRoom_47 : decode cX4_makeRoom 47 = .ok (.invokestatic 55, 3) := by decide +kernel
theorem dX4_makeRoom_50 : decode cX4_makeRoom 50 = .ok (.putfield 15, 3) := by decide +kernel
theorem dX4_makeRoom_53 : decode cX4_makeRoom 53 = .ok (.return_, 1) := by decide +kernel
theorem dX4_keepAgain_0 : decode cX4_keepAgain 0 = .ok (.aload_n 0, 1) := by decide +kernel
theorem dX4_keepAgain_1 : decode cX4_keepAgain 1 = .ok (.getfield 18, 3) := by decide +kernel
theorem dX4_keepAgain_4 : decode cX4_keepAgain 4 = .ok (.bipush 34, 2) := by decide +kernel
theorem dX4_keepAgain_6 : decode cX4_keepAgain 6 = .ok (.imul, 1) := by decide +kernel
theorem dX4_keepAgain_7 : decode cX4_keepAgain 7 = .ok (.istore_n 2, 1) := by decide +kernel
theorem dX4_keepAgain_8 : decode cX4_keepAgain 8 = .ok (.aload_n 1, 1) := by decide +kernel
theorem dX4_keepAgain_9 : decode cX4_keepAgain 9 = .ok (.getfield 32, 3) := by decide +kernel
theorem dX4_keepAgain_12 : decode cX4_keepAgain 12 = .ok (.iconst 0, 1) := by decide +kernel
theorem dX4_keepAgain_13 : decode cX4_keepAgain 13 = .ok (.aload_n 0, 1) := by decide +kernel
theorem dX4_keepAgain_14 : decode cX4_keepAgain 14 = .ok (.getfield 15, 3) := by decide +kernel
theorem dX4_keepAgain_17 : decode cX4_keepAgain 17 = .ok (.iload_n 2, 1) := by decide +kernel
theorem dX4_keepAgain_18 : decode cX4_keepAgain 18 = .ok (.bipush 32, 2) := by decide +kernel
theorem dX4_keepAgain_20 : decode cX4_keepAgain 20 = .ok (.invokestatic 37, 3) := by decide +kernel
theorem dX4_keepAgain_23 : decode cX4_keepAgain 23 = .ok (.aload_n 1, 1) := by decide +kernel
theorem dX4_keepAgain_24 : decode cX4_keepAgain 24 = .ok (.getfield 43, 3) := by decide +kernel
theorem dX4_keepAgain_27 : decode cX4_keepAgain 27 = .ok (.iconst 0, 1) := by decide +kernel
theorem dX4_keepAgain_28 : decode cX4_keepAgain 28 = .ok (.aload_n 0, 1) := by decide +kernel
theorem dX4_keepAgain_29 : decode cX4_keepAgain 29 = .ok (.getfield 15, 3) := by decide +kernel
theorem dX4_keepAgain_32 : decode cX4_keepAgain 32 = .ok (.iload_n 2, 1) := by decide +kernel
theorem dX4_keepAgain_33 : decode cX4_keepAgain 33 = .ok (.bipush 32, 2) := by decide +kernel
theorem dX4_keepAgain_35 : decode cX4_keepAgain 35 = .ok (.iadd, 1) := by decide +kernel
theorem dX4_keepAgain_36 : decode cX4_keepAgain 36 = .ok (.iconst 2, 1) := by decide +kernel
theorem dX4_keepAgain_37 : decode cX4_keepAgain 37 = .ok (.invokestatic 37, 3) := by decide +kernel
theorem dX4_keepAgain_40 : decode cX4_keepAgain 40 = .ok (.aload_n 0, 1) := by decide +kernel
theorem dX4_keepAgain_41 : decode cX4_keepAgain 41 = .ok (.dup, 1) := by decide +kernel
theorem dX4_keepAgain_42 : decode cX4_keepAgain 42 = .ok (.getfield 18, 3) := by decide +kernel
theorem dX4_keepAgain_45 : decode cX4_keepAgain 45 = .ok (.iconst 1, 1) := by decide +kernel
theorem dX4_keepAgain_46 : decode cX4_keepAgain 46 = .ok (.iadd, 1) := by decide +kernel
theorem dX4_keepAgain_47 : decode cX4_keepAgain 47 = .ok (.putfield 18, 3) := by decide +kernel
theorem dX4_keepAgain_50 : decode cX4_keepAgain 50 = .ok (.return_, 1) := by decide +kernel
theorem dX4_keep_0 : decode cX4_keep 0 = .ok (.aload_n 0, 1) := by decide +kernel
theorem dX4_keep_1 : decode cX4_keep 1 = .ok (.invokevirtual 25, 3) := by decide +kernel
theorem dX4_keep_4 : decode cX4_keep 4 = .ok (.aload_n 0, 1) := by decide +kernel
theorem dX4_keep_5 : decode cX4_keep 5 = .ok (.getfield 9, 3) := by decide +kernel
theorem dX4_keep_8 : decode cX4_keep 8 = .ok (.aload_n 0, 1) := by decide +kernel
theorem dX4_keep_9 : decode cX4_keep 9 = .ok (.getfield 18, 3) := by decide +kernel
theorem dX4_keep_12 : decode cX4_keep 12 = .ok (.iload_n 2, 1) := by decide +kernel
theorem dX4_keep_13 : decode cX4_keep 13 = .ok (.iastore, 1) := by decide +kernel
theorem dX4_keep_14 : decode cX4_keep 14 = .ok (.aload_n 0, 1) := by decide +kernel
theorem dX4_keep_15 : decode cX4_keep 15 = .ok (.aload_n 1, 1) := by decide +kernel
theorem dX4_keep_16 : decode cX4_keep 16 = .ok (.invokevirtual 28, 3) := by decide +kernel
theorem dX4_keep_19 : decode cX4_keep 19 = .ok (.aload_n 0, 1) := by decide +kernel
theorem dX4_keep_20 : decode cX4_keep 20 = .ok (.aload_n 0, 1) := by decide +kernel
theorem dX4_keep_21 : decode cX4_keep 21 = .ok (.getfield 18, 3) := by decide +kernel
theorem dX4_keep_24 : decode cX4_keep 24 = .ok (.putfield 22, 3) := by decide +kernel
theorem dX4_keep_27 : decode cX4_keep 27 = .ok (.return_, 1) := by decide +kernel
theorem dX4_takeBack_0 : decode cX4_takeBack 0 = .ok (.aload_n 0, 1) := by decide +kernel
theorem dX4_takeBack_1 : decode cX4_takeBack 1 = .ok (.dup, 1) := by decide +kernel
theorem dX4_takeBack_2 : decode cX4_takeBack 2 = .ok (.getfield 18, 3) := by decide +kernel
theorem dX4_takeBack_5 : decode cX4_takeBack 5 = .ok (.iconst 1, 1) := by decide +kernel
theorem dX4_takeBack_6 : decode cX4_takeBack 6 = .ok (.isub, 1) := by decide +kernel
theorem dX4_takeBack_7 : decode cX4_takeBack 7 = .ok (.putfield 18, 3) := by decide +kernel
theorem dX4_takeBack_10 : decode cX4_takeBack 10 = .ok (.aload_n 0, 1) := by decide +kernel
theorem dX4_takeBack_11 : decode cX4_takeBack 11 = .ok (.getfield 18, 3) := by decide +kernel
theorem dX4_takeBack_14 : decode cX4_takeBack 14 = .ok (.bipush 34, 2) := by decide +kernel
theorem dX4_takeBack_16 : decode cX4_takeBack 16 = .ok (.imul, 1) := by decide +kernel
theorem dX4_takeBack_17 : decode cX4_takeBack 17 = .ok (.istore_n 2, 1) := by decide +kernel
theorem dX4_takeBack_18 : decode cX4_takeBack 18 = .ok (.aload_n 0, 1) := by decide +kernel
theorem dX4_takeBack_19 : decode cX4_takeBack 19 = .ok (.getfield 15, 3) := by decide +kernel
theorem dX4_takeBack_22 : decode cX4_takeBack 22 = .ok (.iload_n 2, 1) := by decide +kernel
theorem dX4_takeBack_23 : decode cX4_takeBack 23 = .ok (.aload_n 1, 1) := by decide +kernel
theorem dX4_takeBack_24 : decode cX4_takeBack 24 = .ok (.getfield 32, 3) := by decide +kernel
theorem dX4_takeBack_27 : decode cX4_takeBack 27 = .ok (.iconst 0, 1) := by decide +kernel
theorem dX4_takeBack_28 : decode cX4_takeBack 28 = .ok (.bipush 32, 2) := by decide +kernel
theorem dX4_takeBack_30 : decode cX4_takeBack 30 = .ok (.invokestatic 37, 3) := by decide +kernel
theorem dX4_takeBack_33 : decode cX4_takeBack 33 = .ok (.aload_n 0, 1) := by decide +kernel
theorem dX4_takeBack_34 : decode cX4_takeBack 34 = .ok (.getfield 15, 3) := by decide +kernel
theorem dX4_takeBack_37 : decode cX4_takeBack 37 = .ok (.iload_n 2, 1) := by decide +kernel
theorem dX4_takeBack_38 : decode cX4_takeBack 38 = .ok (.bipush 32, 2) := by decide +kernel
theorem dX4_takeBack_40 : decode cX4_takeBack 40 = .ok (.iadd, 1) := by decide +kernel
theorem dX4_takeBack_41 : decode cX4_takeBack 41 = .ok (.aload_n 1, 1) := by decide +kernel
theorem dX4_takeBack_42 : decode cX4_takeBack 42 = .ok (.getfield 43, 3) := by decide +kernel
theorem dX4_takeBack_45 : decode cX4_takeBack 45 = .ok (.iconst 0, 1) := by decide +kernel
theorem dX4_takeBack_46 : decode cX4_takeBack 46 = .ok (.iconst 2, 1) := by decide +kernel
theorem dX4_takeBack_47 : decode cX4_takeBack 47 = .ok (.invokestatic 37, 3) := by decide +kernel
theorem dX4_takeBack_50 : decode cX4_takeBack 50 = .ok (.aload_n 1, 1) := by decide +kernel
theorem dX4_takeBack_51 : decode cX4_takeBack 51 = .ok (.iconst 1, 1) := by decide +kernel
theorem dX4_takeBack_52 : decode cX4_takeBack 52 = .ok (.aload_n 1, 1) := by decide +kernel
theorem dX4_takeBack_53 : decode cX4_takeBack 53 = .ok (.getfield 46, 3) := by decide +kernel
theorem dX4_takeBack_56 : decode cX4_takeBack 56 = .ok (.isub, 1) := by decide +kernel
theorem dX4_takeBack_57 : decode cX4_takeBack 57 = .ok (.putfield 46, 3) := by decide +kernel
theorem dX4_takeBack_60 : decode cX4_takeBack 60 = .ok (.return_, 1) := by decide +kernel
theorem dX4_pitToRedo_0 : decode cX4_pitToRedo 0 = .ok (.aload_n 0, 1) := by decide +kernel
theorem dX4_pitToRedo_1 : decode cX4_pitToRedo 1 = .ok (.getfield 18, 3) := by decide +kernel
theorem dX4_pitToRedo_4 : decode cX4_pitToRedo 4 = .ok (.aload_n 0, 1) := by decide +kernel
theorem dX4_pitToRedo_5 : decode cX4_pitToRedo 5 = .ok (.getfield 22, 3) := by decide +kernel
theorem dX4_pitToRedo_8 : decode cX4_pitToRedo 8 = .ok (.if_icmp .ge 15, 3) := by decide +kernel
theorem dX4_pitToRedo_11 : decode cX4_pitToRedo 11 = .ok (.aload_n 0, 1) := by decide +kernel
theorem dX4_pitToRedo_12 : decode cX4_pitToRedo 12 = .ok (.getfield 9, 3) := by decide +kernel
theorem dX4_pitToRedo_15 : decode cX4_pitToRedo 15 = .ok (.aload_n 0, 1) := by decide +kernel
theorem dX4_pitToRedo_16 : decode cX4_pitToRedo 16 = .ok (.getfield 18, 3) := by decide +kernel
theorem dX4_pitToRedo_19 : decode cX4_pitToRedo 19 = .ok (.iaload, 1) := by decide +kernel
theorem dX4_pitToRedo_20 : decode cX4_pitToRedo 20 = .ok (.goto 4, 3) := by decide +kernel
theorem dX4_pitToRedo_23 : decode cX4_pitToRedo 23 = .ok (.iconst (-1), 1) := by decide +kernel
theorem dX4_pitToRedo_24 : decode cX4_pitToRedo 24 = .ok (.ireturn, 1) := by decide +kernel
theorem dX5_init_0 : decode cX5_init 0 = .ok (.aload_n 0, 1) := by decide +kernel
theorem dX5_init_1 : decode cX5_init 1 = .ok (.invokespecial 1, 3) := by decide +kernel
theorem dX5_init_4 : decode cX5_init 4 = .ok (.return_, 1) := by decide +kernel
theorem dX5_become_0 : decode cX5_become 0 = .ok (.aload_n 0, 1) := by decide +kernel
theorem dX5_become_1 : decode cX5_become 1 = .ok (.iload_n 1, 1) := by decide +kernel
theorem dX5_become_2 : decode cX5_become 2 = .ok (.putfield 7, 3) := by decide +kernel
theorem dX5_become_5 : decode cX5_become 5 = .ok (.aload_n 0, 1) := by decide +kernel
theorem dX5_become_6 : decode cX5_become 6 = .ok (.lload_n 2, 1) := by decide +kernel
theorem dX5_become_7 : decode cX5_become 7 = .ok (.lconst 0, 1) := by decide +kernel
theorem dX5_become_8 : decode cX5_become 8 = .ok (.lcmp, 1) := by decide +kernel
theorem dX5_become_9 : decode cX5_become 9 = .ok (.ifCond .ne 7, 3) := by decide +kernel
theorem dX5_become_12 : decode cX5_become 12 = .ok (.lconst 1, 1) := by decide +kernel
theorem dX5_become_13 : decode cX5_become 13 = .ok (.goto 4, 3) := by decide +kernel
theorem dX5_become_16 : decode cX5_become 16 = .ok (.lload_n 2, 1) := by decide +kernel
theorem dX5_become_17 : decode cX5_become 17 = .ok (.putfield 13, 3) := by decide +kernel
theorem dX5_become_20 : decode cX5_become 20 = .ok (.return_, 1) := by decide +kernel
theorem dX5_nextBelow_0 : decode cX5_nextBelow 0 = .ok (.aload_n 0, 1) := by decide +kernel
theorem dX5_nextBelow_1 : decode cX5_nextBelow 1 = .ok (.dup, 1) := by decide +kernel
theorem dX5_nextBelow_2 : decode cX5_nextBelow 2 = .ok (.getfield 13, 3) := by decide +kernel
theorem dX5_nextBelow_5 : decode cX5_nextBelow 5 = .ok (.aload_n 0, 1) := by decide +kernel
theorem dX5_nextBelow_6 : decode cX5_nextBelow 6 = .ok (.getfield 13, 3) := by decide +kernel
theorem dX5_nextBelow_9 : decode cX5_nextBelow 9 = .ok (.bipush 13, 2) := by decide +kernel
theorem dX5_nextBelow_11 : decode cX5_nextBelow 11 = .ok (.lshl, 1) := by decide +kernel
theorem dX5_nextBelow_12 : decode cX5_nextBelow 12 = .ok (.lxor, 1) := by decide +kernel
theorem dX5_nextBelow_13 : decode cX5_nextBelow 13 = .ok (.putfield 13, 3) := by decide +kernel
theorem dX5_nextBelow_16 : decode cX5_nextBelow 16 = .ok (.aload_n 0, 1) := by decide +kernel
theorem dX5_nextBelow_17 : decode cX5_nextBelow 17 = .ok (.dup, 1) := by decide +kernel
theorem dX5_nextBelow_18 : decode cX5_nextBelow 18 = .ok (.getfield 13, 3) := by decide +kernel
theorem dX5_nextBelow_21 : decode cX5_nextBelow 21 = .ok (.aload_n 0, 1) := by decide +kernel
theorem dX5_nextBelow_22 : decode cX5_nextBelow 22 = .ok (.getfield 13, 3) := by decide +kernel
theorem dX5_nextBelow_25 : decode cX5_nextBelow 25 = .ok (.bipush 7, 2) := by decide +kernel
theorem dX5_nextBelow_27 : decode cX5_nextBelow 27 = .ok (.lushr, 1) := by decide +kernel
theorem dX5_nextBelow_28 : decode cX5_nextBelow 28 = .ok (.lxor, 1) := by decide +kernel
theorem dX5_nextBelow_29 : decode cX5_nextBelow 29 = .ok (.putfield 13, 3) := by decide +kernel
theorem dX5_nextBelow_32 : decode cX5_nextBelow 32 = .ok (.aload_n 0, 1) := by decide +kernel
theorem dX5_nextBelow_33 : decode cX5_nextBelow 33 = .ok (.dup, 1) := by decide +kernel
theorem dX5_nextBelow_34 : decode cX5_nextBelow 34 = .ok (.getfield 13, 3) := by decide +kernel
theorem dX5_nextBelow_37 : decode cX5_nextBelow 37 = .ok (.aload_n 0, 1) := by decide +kernel
theorem dX5_nextBelow_38 : decode cX5_nextBelow 38 = .ok (.getfield 13, 3) := by decide +kernel
theorem dX5_nextBelow_41 : decode cX5_nextBelow 41 = .ok (.bipush 17, 2) := by decide +kernel
theorem dX5_nextBelow_43 : decode cX5_nextBelow 43 = .ok (.lshl, 1) := by decide +kernel
theorem dX5_nextBelow_44 : decode cX5_nextBelow 44 = .ok (.lxor, 1) := by decide +kernel
theorem dX5_nextBelow_45 : decode cX5_nextBelow 45 = .ok (.putfield 13, 3) := by decide +kernel
theorem dX5_nextBelow_48 : decode cX5_nextBelow 48 = .ok (.iload_n 1, 1) := by decide +kernel
theorem dX5_nextBelow_49 : decode cX5_nextBelow 49 = .ok (.iconst 1, 1) := by decide +kernel
theorem dX5_nextBelow_50 : decode cX5_nextBelow 50 = .ok (.if_icmp .ge 7, 3) := by decide +kernel
theorem dX5_nextBelow_53 : decode cX5_nextBelow 53 = .ok (.iconst 0, 1) := by decide +kernel
theorem dX5_nextBelow_54 : decode cX5_nextBelow 54 = .ok (.goto 13, 3) := by decide +kernel
theorem dX5_nextBelow_57 : decode cX5_nextBelow 57 = .ok (.aload_n 0, 1) := by decide +kernel
theorem dX5_nextBelow_58 : decode cX5_nextBelow 58 = .ok (.getfield 13, 3) := by decide +kernel
theorem dX5_nextBelow_61 : decode cX5_nextBelow 61 = .ok (.iconst 1, 1) := by decide +kernel
theorem dX5_nextBelow_62 : decode cX5_nextBelow 62 = .ok (.lushr, 1) := by decide +kernel
theorem dX5_nextBelow_63 : decode cX5_nextBelow 63 = .ok (.iload_n 1, 1) := by decide +kernel
theorem dX5_nextBelow_64 : decode cX5_nextBelow 64 = .ok (.i2l, 1) := by decide +kernel
theorem dX5_nextBelow_65 : decode cX5_nextBelow 65 = .ok (.lrem, 1) := by decide +kernel
theorem dX5_nextBelow_66 : decode cX5_nextBelow 66 = .ok (.l2i, 1) := by decide +kernel
theorem dX5_nextBelow_67 : decode cX5_nextBelow 67 = .ok (.ireturn, 1) := by decide +kernel
theorem dX6_init_0 : decode cX6_init 0 = .ok (.aload_n 0, 1) := by decide +kernel
theorem dX6_init_1 : decode cX6_init 1 = .ok (.invokespecial 3, 3) := by decide +kernel
theorem dX6_init_4 : decode cX6_init 4 = .ok (.aload_n 0, 1) := by decide +kernel
theorem dX6_init_5 : decode cX6_init 5 = .ok (.bipush 32, 2) := by decide +kernel
theorem dX6_init_7 : decode cX6_init 7 = .ok (.newarray .int, 2) := by decide +kernel
theorem dX6_init_9 : decode cX6_init 9 = .ok (.putfield 9, 3) := by decide +kernel
theorem dX6_init_12 : decode cX6_init 12 = .ok (.aload_n 0, 1) := by decide +kernel
theorem dX6_init_13 : decode cX6_init 13 = .ok (.iconst 2, 1) := by decide +kernel
theorem dX6_init_14 : decode cX6_init 14 = .ok (.newarray .int, 2) := by decide +kernel
theorem dX6_init_16 : decode cX6_init 16 = .ok (.putfield 15, 3) := by decide +kernel
theorem dX6_init_19 : decode cX6_init 19 = .ok (.return_, 1) := by decide +kernel
theorem dX6_clear_0 : decode cX6_clear 0 = .ok (.aload_n 0, 1) := by decide +kernel
theorem dX6_clear_1 : decode cX6_clear 1 = .ok (.getfield 9, 3) := by decide +kernel
theorem dX6_clear_4 : decode cX6_clear 4 = .ok (.iconst 0, 1) := by decide +kernel
theorem dX6_clear_5 : decode cX6_clear 5 = .ok (.invokestatic 18, 3) := by decide +kernel
theorem dX6_clear_8 : decode cX6_clear 8 = .ok (.aload_n 0, 1) := by decide +kernel
theorem dX6_clear_9 : decode cX6_clear 9 = .ok (.getfield 15, 3) := by decide +kernel
theorem dX6_clear_12 : decode cX6_clear 12 = .ok (.iconst 0, 1) := by decide +kernel
theorem dX6_clear_13 : decode cX6_clear 13 = .ok (.invokestatic 18, 3) := by decide +kernel
theorem dX6_clear_16 : decode cX6_clear 16 = .ok (.aload_n 0, 1) := by decide +kernel
theorem dX6_clear_17 : decode cX6_clear 17 = .ok (.iconst 0, 1) := by decide +kernel
theorem dX6_clear_18 : decode cX6_clear 18 = .ok (.putfield 24, 3) := by decide +kernel
theorem dX6_clear_21 : decode cX6_clear 21 = .ok (.return_, 1) := by decide +kernel
theorem dX6_follow_0 : decode cX6_follow 0 = .ok (.aload_n 1, 1) := by decide +kernel
theorem dX6_follow_1 : decode cX6_follow 1 = .ok (.iconst 0, 1) := by decide +kernel
theorem dX6_follow_2 : decode cX6_follow 2 = .ok (.aload_n 0, 1) := by decide +kernel
theorem dX6_follow_3 : decode cX6_follow 3 = .ok (.getfield 9, 3) := by decide +kernel
theorem dX6_follow_6 : decode cX6_follow 6 = .ok (.iconst 0, 1) := by decide +kernel
theorem dX6_follow_7 : decode cX6_follow 7 = .ok (.bipush 32, 2) := by decide +kernel
theorem dX6_follow_9 : decode cX6_follow 9 = .ok (.invokestatic 28, 3) := by decide +kernel
theorem dX6_follow_12 : decode cX6_follow 12 = .ok (.aload_n 0, 1) := by decide +kernel
theorem dX6_follow_13 : decode cX6_follow 13 = .ok (.getfield 15, 3) := by decide +kernel
theorem dX6_follow_16 : decode cX6_follow 16 = .ok (.aload_n 0, 1) := by decide +kernel
theorem dX6_follow_17 : decode cX6_follow 17 = .ok (.getfield 24, 3) := by decide +kernel
theorem dX6_follow_20 : decode cX6_follow 20 = .ok (.dup2, 1) := by decide +kernel
theorem dX6_follow_21 : decode cX6_follow 21 = .ok (.iaload, 1) := by decide +kernel
theorem dX6_follow_22 : decode cX6_follow 22 = .ok (.iload_n 2, 1) := by decide +kernel
theorem dX6_follow_23 : decode cX6_follow 23 = .ok (.iadd, 1) := by decide +kernel
theorem dX6_follow_24 : decode cX6_follow 24 = .ok (.iastore, 1) := by decide +kernel
theorem dX6_follow_25 : decode cX6_follow 25 = .ok (.aload_n 0, 1) := by decide +kernel
theorem dX6_follow_26 : decode cX6_follow 26 = .ok (.iconst 1, 1) := by decide +kernel
theorem dX6_follow_27 : decode cX6_follow 27 = .ok (.aload_n 0, 1) := by decide +kernel
theorem dX6_follow_28 : decode cX6_follow 28 = .ok (.getfield 24, 3) := by decide +kernel
theorem dX6_follow_31 : decode cX6_follow 31 = .ok (.isub, 1) := by decide +kernel
theorem dX6_follow_32 : decode cX6_follow 32 = .ok (.putfield 24, 3) := by decide +kernel
theorem dX6_follow_35 : decode cX6_follow 35 = .ok (.return_, 1) := by decide +kernel
theorem dX7_init_0 : decode cX7_init 0 = .ok (.aload_n 0, 1) := by decide +kernel
theorem dX7_init_1 : decode cX7_init 1 = .ok (.invokespecial 3, 3) := by decide +kernel
theorem dX7_init_4 : decode cX7_init 4 = .ok (.aload_n 0, 1) := by decide +kernel
theorem dX7_init_5 : decode cX7_init 5 = .ok (.iconst 0, 1) := by decide +kernel
theorem dX7_init_6 : decode cX7_init 6 = .ok (.newarray .int, 2) := by decide +kernel
theorem dX7_init_8 : decode cX7_init 8 = .ok (.putfield 9, 3) := by decide +kernel
theorem dX7_init_11 : decode cX7_init 11 = .ok (.aload_n 0, 1) := by decide +kernel
theorem dX7_init_12 : decode cX7_init 12 = .ok (.iconst 0, 1) := by decide +kernel
theorem dX7_init_13 : decode cX7_init 13 = .ok (.newarray .int, 2) := by decide +kernel
theorem dX7_init_15 : decode cX7_init 15 = .ok (.putfield 15, 3) := by decide +kernel
theorem dX7_init_18 : decode cX7_init 18 = .ok (.aload_n 0, 1) := by decide +kernel
theorem dX7_init_19 : decode cX7_init 19 = .ok (.iconst 0, 1) := by decide +kernel
theorem dX7_init_20 : decode cX7_init 20 = .ok (.newarray .int, 2) := by decide +kernel
theorem dX7_init_22 : decode cX7_init 22 = .ok (.putfield 18, 3) := by decide +kernel
theorem dX7_init_25 : decode cX7_init 25 = .ok (.aload_n 0, 1) := by decide +kernel
theorem dX7_init_26 : decode cX7_init 26 = .ok (.iconst 0, 1) := by decide +kernel
theorem dX7_init_27 : decode cX7_init 27 = .ok (.newarray .int, 2) := by decide +kernel
theorem dX7_init_29 : decode cX7_init 29 = .ok (.putfield 21, 3) := by decide +kernel
theorem dX7_init_32 : decode cX7_init 32 = .ok (.aload_n 0, 1) := by decide +kernel
theorem dX7_init_33 : decode cX7_init 33 = .ok (.iconst 1, 1) := by decide +kernel
theorem dX7_init_34 : decode cX7_init 34 = .ok (.newarray .int, 2) := by decide +kernel
theorem dX7_init_36 : decode cX7_init 36 = .ok (.putfield 24, 3) := by decide +kernel
theorem dX7_init_39 : decode cX7_init 39 = .ok (.aload_n 0, 1) := by decide +kernel
theorem dX7_init_40 : decode cX7_init 40 = .ok (.iconst 0, 1) := by decide +kernel
theorem dX7_init_41 : decode cX7_init 41 = .ok (.newarray .int, 2) := by decide +kernel
theorem dX7_init_43 : decode cX7_init 43 = .ok (.putfield 27, 3) := by decide +kernel
theorem dX7_init_46 : decode cX7_init 46 = .ok (.aload_n 0, 1) := by decide +kernel
theorem dX7_init_47 : decode cX7_init 47 = .ok (.aload_n 1, 1) := by decide +kernel
theorem dX7_init_48 : decode cX7_init 48 = .ok (.putfield 30, 3) := by decide +kernel
theorem dX7_init_51 : decode cX7_init 51 = .ok (.return_, 1) := by decide +kernel
theorem dX7_makeRoom_0 : decode cX7_makeRoom 0 = .ok (.aload_n 0, 1) := by decide +kernel
theorem dX7_makeRoom_1 : decode cX7_makeRoom 1 = .ok (.iload_n 1, 1) := by decide +kernel
theorem dX7_makeRoom_2 : decode cX7_makeRoom 2 = .ok (.newarray .int, 2) := by decide +kernel
theorem dX7_makeRoom_4 : decode cX7_makeRoom 4 = .ok (.putfield 9, 3) := by decide +kernel
theorem dX7_makeRoom_7 : decode cX7_makeRoom 7 = .ok (.aload_n 0, 1) := by decide +kernel
theorem dX7_makeRoom_8 : decode cX7_makeRoom 8 = .ok (.iload_n 1, 1) := by decide +kernel
theorem dX7_makeRoom_9 : decode cX7_makeRoom 9 = .ok (.newarray .int, 2) := by decide +kernel
theorem dX7_makeRoom_11 : decode cX7_makeRoom 11 = .ok (.putfield 15, 3) := by decide +kernel
theorem dX7_makeRoom_14 : decode cX7_makeRoom 14 = .ok (.aload_n 0, 1) := by decide +kernel
theorem dX7_makeRoom_15 : decode cX7_makeRoom 15 = .ok (.iload_n 1, 1) := by decide +kernel
theorem dX7_makeRoom_16 : decode cX7_makeRoom 16 = .ok (.newarray .int, 2) := by decide +kernel
theorem dX7_makeRoom_18 : decode cX7_makeRoom 18 = .ok (.putfield 18, 3) := by decide +kernel
theorem dX7_makeRoom_21 : decode cX7_makeRoom 21 = .ok (.aload_n 0, 1) := by decide +kernel
theorem dX7_makeRoom_22 : decode cX7_makeRoom 22 = .ok (.iload_n 1, 1) := by decide +kernel
theorem dX7_makeRoom_23 : decode cX7_makeRoom 23 = .ok (.newarray .int, 2) := by decide +kernel
theorem dX7_makeRoom_25 : decode cX7_makeRoom 25 = .ok (.putfield 21, 3) := by decide +kernel
theorem dX7_makeRoom_28 : decode cX7_makeRoom 28 = .ok (.aload_n 0, 1) := by decide +kernel
theorem dX7_makeRoom_29 : decode cX7_makeRoom 29 = .ok (.iload_n 1, 1) := by decide +kernel
theorem dX7_makeRoom_30 : decode cX7_makeRoom 30 = .ok (.iconst 1, 1) := by decide +kernel
theorem dX7_makeRoom_31 : decode cX7_makeRoom 31 = .ok (.iadd, 1) := by decide +kernel
theorem dX7_makeRoom_32 : decode cX7_makeRoom 32 = .ok (.newarray .int, 2) := by decide +kernel
theorem dX7_makeRoom_34 : decode cX7_makeRoom 34 = .ok (.putfield 24, 3) := by decide +kernel
theorem dX7_makeRoom_37 : decode cX7_makeRoom 37 = .ok (.return_, 1) := by decide +kernel
theorem dX7_makeMoveRoom_0 : decode cX7_makeMoveRoom 0 = .ok (.aload_n 0, 1) := by decide +kernel
theorem dX7_makeMoveRoom_1 : decode cX7_makeMoveRoom 1 = .ok (.iload_n 1, 1) := by decide +kernel
theorem dX7_makeMoveRoom_2 : decode cX7_makeMoveRoom 2 = .ok (.newarray .int, 2) := by decide +kernel
theorem dX7_makeMoveRoom_4 : decode cX7_makeMoveRoom 4 = .ok (.putfield 27, 3) := by decide +kernel
theorem dX7_makeMoveRoom_7 : decode cX7_makeMoveRoom 7 = .ok (.return_, 1) := by decide +kernel
theorem dX7_listLeaders_0 : decode cX7_listLeaders 0 = .ok (.iload_n 1, 1) := by decide +kernel
theorem dX7_listLeaders_1 : decode cX7_listLeaders 1 = .ok (.istore_n 3, 1) := by decide +kernel
theorem dX7_listLeaders_2 : decode cX7_listLeaders 2 = .ok (.iload_n 3, 1) := by decide +kernel
theorem dX7_listLeaders_3 : decode cX7_listLeaders 3 = .ok (.iload_n 2, 1) := by decide +kernel
theorem dX7_listLeaders_4 : decode cX7_listLeaders 4 = .ok (.if_icmp .gt 16, 3) := by decide +kernel
theorem dX7_listLeaders_7 : decode cX7_listLeaders 7 = .ok (.aload_n 0, 1) := by decide +kernel
theorem dX7_listLeaders_8 : decode cX7_listLeaders 8 = .ok (.getfield 24, 3) := by decide +kernel
theorem dX7_listLeaders_11 : decode cX7_listLeaders 11 = .ok (.iload_n 3, 1) := by decide +kernel
theorem dX7_listLeaders_12 : decode cX7_listLeaders 12 = .ok (.iconst 0, 1) := by decide +kernel
theorem dX7_listLeaders_13 : decode cX7_listLeaders 13 = .ok (.iastore, 1) := by decide +kernel
theorem dX7_listLeaders_14 : decode cX7_listLeaders 14 = .ok (.iinc 3 1, 3) := by decide +kernel
theorem dX7_listLeaders_17 : decode cX7_listLeaders 17 = .ok (.goto (-15), 3) := by decide +kernel
theorem dX7_listLeaders_20 : decode cX7_listLeaders 20 = .ok (.aload_n 0, 1) := by decide +kernel
theorem dX7_listLeaders_21 : decode cX7_listLeaders 21 = .ok (.getfield 30, 3) := by decide +kernel
theorem dX7_listLeaders_24 : decode cX7_listLeaders 24 = .ok (.getfield 56, 3) := by decide +kernel
theorem dX7_listLeaders_27 : decode cX7_listLeaders 27 = .ok (.iload_n 1, 1) := by decide +kernel
theorem dX7_listLeaders_28 : decode cX7_listLeaders 28 = .ok (.iaload, 1) := by decide +kernel
theorem dX7_listLeaders_29 : decode cX7_listLeaders 29 = .ok (.istore_n 3, 1) := by decide +kernel
theorem dX7_listLeaders_30 : decode cX7_listLeaders 30 = .ok (.iload_n 3, 1) := by decide +kernel
theorem dX7_listLeaders_31 : decode cX7_listLeaders 31 = .ok (.aload_n 0, 1) := by decide +kernel
theorem dX7_listLeaders_32 : decode cX7_listLeaders 32 = .ok (.getfield 30, 3) := by decide +kernel
theorem dX7_listLeaders_35 : decode cX7_listLeaders 35 = .ok (.getfield 56, 3) := by decide +kernel
theorem dX7_listLeaders_38 : decode cX7_listLeaders 38 = .ok (.iload_n 2, 1) := by decide +kernel
theorem dX7_listLeaders_39 : decode cX7_listLeaders 39 = .ok (.iaload, 1) := by decide +kernel
theorem dX7_listLeaders_40 : decode cX7_listLeaders 40 = .ok (.if_icmp .ge 40, 3) := by decide +kernel
theorem dX7_listLeaders_43 : decode cX7_listLeaders 43 = .ok (.aload_n 0, 1) := by decide +kernel
theorem dX7_listLeaders_44 : decode cX7_listLeaders 44 = .ok (.getfield 30, 3) := by decide +kernel
theorem dX7_listLeaders_47 : decode cX7_listLeaders 47 = .ok (.getfield 59, 3) := by decide +kernel
theorem dX7_listLeaders_50 : decode cX7_listLeaders 50 = .ok (.iload_n 3, 1) := by decide +kernel
theorem dX7_listLeaders_51 : decode cX7_listLeaders 51 = .ok (.iaload, 1) := by decide +kernel
theorem dX7_listLeaders_52 : decode cX7_listLeaders 52 = .ok (.invokestatic 62, 3) := by decide +kernel
theorem dX7_listLeaders_55 : decode cX7_listLeaders 55 = .ok (.istore 4, 2) := by decide +kernel
theorem dX7_listLeaders_57 : decode cX7_listLeaders 57 = .ok (.iload 4, 2) := by decide +kernel
theorem dX7_listLeaders_59 : decode cX7_listLeaders 59 = .ok (.iload_n 1, 1) := by decide +kernel
theorem dX7_listLeaders_60 : decode cX7_listLeaders 60 = .ok (.if_icmp .lt 14, 3) := by decide +kernel
theorem dX7_listLeaders_63 : decode cX7_listLeaders 63 = .ok (.aload_n 0, 1) := by decide +kernel
theorem dX7_listLeaders_64 : decode cX7_listLeaders 64 = .ok (.getfield 24, 3) := by decide +kernel
theorem dX7_listLeaders_67 : decode cX7_listLeaders 67 = .ok (.iload 4, 2) := by decide +kernel
theorem dX7_listLeaders_69 : decode cX7_listLeaders 69 = .ok (.dup2, 1) := by decide +kernel
theorem dX7_listLeaders_70 : decode cX7_listLeaders 70 = .ok (.iaload, 1) := by decide +kernel
theorem dX7_listLeaders_71 : decode cX7_listLeaders 71 = .ok (.iconst 1, 1) := by decide +kernel
theorem dX7_listLeaders_72 : decode cX7_listLeaders 72 = .ok (.iadd, 1) := by decide +kernel
theorem dX7_listLeaders_73 : decode cX7_listLeaders 73 = .ok (.iastore, 1) := by decide +kernel
theorem dX7_listLeaders_74 : decode cX7_listLeaders 74 = .ok (.iinc 3 1, 3) := by decide +kernel
theorem dX7_listLeaders_77 : decode cX7_listLeaders 77 = .ok (.goto (-47), 3) := by decide +kernel
theorem dX7_listLeaders_80 : decode cX7_listLeaders 80 = .ok (.iload_n 1, 1) := by decide +kernel
theorem dX7_listLeaders_81 : decode cX7_listLeaders 81 = .ok (.iconst 1, 1) := by decide +kernel
theorem dX7_listLeaders_82 : decode cX7_listLeaders 82 = .ok (.iadd, 1) := by decide +kernel
theorem dX7_listLeaders_83 : decode cX7_listLeaders 83 = .ok (.istore_n 3, 1) := by decide +kernel
theorem dX7_listLeaders_84 : decode cX7_listLeaders 84 = .ok (.iload_n 3, 1) := by decide +kernel
theorem dX7_listLeaders_85 : decode cX7_listLeaders 85 = .ok (.iload_n 2, 1) := by decide +kernel
theorem dX7_listLeaders_86 : decode cX7_listLeaders 86 = .ok (.if_icmp .gt 26, 3) := by decide +kernel
theorem dX7_listLeaders_89 : decode cX7_listLeaders 89 = .ok (.aload_n 0, 1) := by decide +kernel
theorem dX7_listLeaders_90 : decode cX7_listLeaders 90 = .ok (.getfield 24, 3) := by decide +kernel
theorem dX7_listLeaders_93 : decode cX7_listLeaders 93 = .ok (.iload_n 3, 1) := by decide +kernel
theorem dX7_listLeaders_94 : decode cX7_listLeaders 94 = .ok (.dup2, 1) := by decide +kernel
theorem dX7_listLeaders_95 : decode cX7_listLeaders 95 = .ok (.iaload, 1) := by decide +kernel
theorem dX7_listLeaders_96 : decode cX7_listLeaders 96 = .ok (.aload_n 0, 1) := by decide +kernel
theorem dX7_listLeaders_97 : decode cX7_listLeaders 97 = .ok (.getfield 24, 3) := by decide +kernel
theorem dX7_listLeaders_100 : decode cX7_listLeaders 100 = .ok (.iload_n 3, 1) := by decide +kernel
theorem dX7_listLeaders_101 : decode cX7_listLeaders 101 = .ok (.iconst 1, 1) := by decide +kernel
theorem dX7_listLeaders_102 : decode cX7_listLeaders 102 = .ok (.isub, 1) := by decide +kernel
theorem dX7_listLeaders_103 : decode cX7_listLeaders 103 = .ok (.iaload, 1) := by decide +kernel
theorem dX7_listLeaders_104 : decode cX7_listLeaders 104 = .ok (.iadd, 1) := by decide +kernel
theorem dX7_listLeaders_105 : decode cX7_listLeaders 105 = .ok (.iastore, 1) := by decide +kernel
theorem dX7_listLeaders_106 : decode cX7_listLeaders 106 = .ok (.iinc 3 1, 3) := by decide +kernel
theorem dX7_listLeaders_109 : decode cX7_listLeaders 109 = .ok (.goto (-25), 3) := by decide +kernel
theorem dX7_listLeaders_112 : decode cX7_listLeaders 112 = .ok (.iload_n 1, 1) := by decide +kernel
theorem dX7_listLeaders_113 : decode cX7_listLeaders 113 = .ok (.istore_n 3, 1) := by decide +kernel
theorem dX7_listLeaders_114 : decode cX7_listLeaders 114 = .ok (.iload_n 3, 1) := by decide +kernel
theorem dX7_listLeaders_115 : decode cX7_listLeaders 115 = .ok (.iload_n 2, 1) := by decide +kernel
theorem dX7_listLeaders_116 : decode cX7_listLeaders 116 = .ok (.if_icmp .ge 87, 3) := by decide +kernel
theorem dX7_listLeaders_119 : decode cX7_listLeaders 119 = .ok (.aload_n 0, 1) := by decide +kernel
theorem dX7_listLeaders_120 : decode cX7_listLeaders 120 = .ok (.getfield 30, 3) := by decide +kernel
theorem dX7_listLeaders_123 : decode cX7_listLeaders 123 = .ok (.getfield 56, 3) := by decide +kernel
theorem dX7_listLeaders_126 : decode cX7_listLeaders 126 = .ok (.iload_n 3, 1) := by decide +kernel
theorem dX7_listLeaders_127 : decode cX7_listLeaders 127 = .ok (.iaload, 1) := by decide +kernel
theorem dX7_listLeaders_128 : decode cX7_listLeaders 128 = .ok (.istore 4, 2) := by decide +kernel
theorem dX7_listLeaders_130 : decode cX7_listLeaders 130 = .ok (.iload 4, 2) := by decide +kernel
theorem dX7_listLeaders_132 : decode cX7_listLeaders 132 = .ok (.aload_n 0, 1) := by decide +kernel
theorem dX7_listLeaders_133 : decode cX7_listLeaders 133 = .ok (.getfield 30, 3) := by decide +kernel
theorem dX7_listLeaders_136 : decode cX7_listLeaders 136 = .ok (.getfield 56, 3) := by decide +kernel
theorem dX7_listLeaders_139 : decode cX7_listLeaders 139 = .ok (.iload_n 3, 1) := by decide +kernel
theorem dX7_listLeaders_140 : decode cX7_listLeaders 140 = .ok (.iconst 1, 1) := by decide +kernel
theorem dX7_listLeaders_141 : decode cX7_listLeaders 141 = .ok (.iadd, 1) := by decide +kernel
theorem dX7_listLeaders_142 : decode cX7_listLeaders 142 = .ok (.iaload, 1) := by decide +kernel
theorem dX7_listLeaders_143 : decode cX7_listLeaders 143 = .ok (.if_icmp .ge 54, 3) := by decide +kernel
theorem dX7_listLeaders_146 : decode cX7_listLeaders 146 = .ok (.aload_n 0, 1) := by decide +kernel
theorem dX7_listLeaders_147 : decode cX7_listLeaders 147 = .ok (.getfield 30, 3) := by decide +kernel
theorem dX7_listLeaders_150 : decode cX7_listLeaders 150 = .ok (.getfield 59, 3) := by decide +kernel
theorem dX7_listLeaders_153 : decode cX7_listLeaders 153 = .ok (.iload 4, 2) := by decide +kernel
theorem dX7_listLeaders_155 : decode cX7_listLeaders 155 = .ok (.iaload, 1) := by decide +kernel
theorem dX7_listLeaders_156 : decode cX7_listLeaders 156 = .ok (.invokestatic 62, 3) := by decide +kernel
theorem dX7_listLeaders_159 : decode cX7_listLeaders 159 = .ok (.istore 5, 2) := by decide +kernel
theorem dX7_listLeaders_161 : decode cX7_listLeaders 161 = .ok (.iload 5, 2) := by decide +kernel
theorem dX7_listLeaders_163 : decode cX7_listLeaders 163 = .ok (.iload_n 1, 1) := by decide +kernel
theorem dX7_listLeaders_164 : decode cX7_listLeaders 164 = .ok (.if_icmp .lt 27, 3) := by decide +kernel
theorem dX7_listLeaders_167 : decode cX7_listLeaders 167 = .ok (.aload_n 0, 1) := by decide +kernel
theorem dX7_listLeaders_168 : decode cX7_listLeaders 168 = .ok (.getfield 24, 3) := by decide +kernel
theorem dX7_listLeaders_171 : decode cX7_listLeaders 171 = .ok (.iload 5, 2) := by decide +kernel
theorem dX7_listLeaders_173 : decode cX7_listLeaders 173 = .ok (.dup2, 1) := by decide +kernel
theorem dX7_listLeaders_174 : decode cX7_listLeaders 174 = .ok (.iaload, 1) := by decide +kernel
theorem dX7_listLeaders_175 : decode cX7_listLeaders 175 = .ok (.iconst 1, 1) := by decide +kernel
theorem dX7_listLeaders_176 : decode cX7_listLeaders 176 = .ok (.isub, 1) := by decide +kernel
theorem dX7_listLeaders_177 : decode cX7_listLeaders 177 = .ok (.iastore, 1) := by decide +kernel
theorem dX7_listLeaders_178 : decode cX7_listLeaders 178 = .ok (.aload_n 0, 1) := by decide +kernel
theorem dX7_listLeaders_179 : decode cX7_listLeaders 179 = .ok (.getfield 27, 3) := by decide +kernel
theorem dX7_listLeaders_182 : decode cX7_listLeaders 182 = .ok (.aload_n 0, 1) := by decide +kernel
theorem dX7_listLeaders_183 : decode cX7_listLeaders 183 = .ok (.getfield 24, 3) := by decide +kernel
theorem dX7_listLeaders_186 : decode cX7_listLeaders 186 = .ok (.iload 5, 2) := by decide +kernel
theorem dX7_listLeaders_188 : decode cX7_listLeaders 188 = .ok (.iaload, 1) := by decide +kernel
theorem dX7_listLeaders_189 : decode cX7_listLeaders 189 = .ok (.iload_n 3, 1) := by decide +kernel
theorem dX7_listLeaders_190 : decode cX7_listLeaders 190 = .ok (.iastore, 1) := by decide +kernel
theorem dX7_listLeaders_191 : decode cX7_listLeaders 191 = .ok (.iinc 4 1, 3) := by decide +kernel
theorem dX7_listLeaders_194 : decode cX7_listLeaders 194 = .ok (.goto (-64), 3) := by decide +kernel
theorem dX7_listLeaders_197 : decode cX7_listLeaders 197 = .ok (.iinc 3 1, 3) := by decide +kernel
theorem dX7_listLeaders_200 : decode cX7_listLeaders 200 = .ok (.goto (-86), 3) := by decide +kernel
theorem dX7_listLeaders_203 : decode cX7_listLeaders 203 = .ok (.return_, 1) := by decide +kernel
