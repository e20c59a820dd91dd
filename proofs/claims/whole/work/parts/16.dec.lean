theorem dX12_keep_0 : decode cX12_keep 0 = .ok (.iload_n 1, 1) := by decide +kernel
theorem dX12_keep_1 : decode cX12_keep 1 = .ok (.bipush 35, 2) := by decide +kernel
theorem dX12_keep_3 : decode cX12_keep 3 = .ok (.imul, 1) := by decide +kernel
theorem dX12_keep_4 : decode cX12_keep 4 = .ok (.istore_n 2, 1) := by decide +kernel
theorem dX12_keep_5 : decode cX12_keep 5 = .ok (.iconst 0, 1) := by decide +kernel
theorem dX12_keep_6 : decode cX12_keep 6 = .ok (.istore_n 3, 1) := by decide +kernel
theorem dX12_keep_7 : decode cX12_keep 7 = .ok (.iload_n 3, 1) := by decide +kernel
theorem dX12_keep_8 : decode cX12_keep 8 = .ok (.bipush 32, 2) := by decide +kernel
theorem dX12_keep_10 : decode cX12_keep 10 = .ok (.if_icmp .ge 23, 3) := by decide +kernel
theorem dX12_keep_13 : decode cX12_keep 13 = .ok (.aload_n 0, 1) := by decide +kernel
theorem dX12_keep_14 : decode cX12_keep 14 = .ok (.getfield 69, 3) := by decide +kernel
theorem dX12_keep_17 : decode cX12_keep 17 = .ok (.iload_n 2, 1) := by decide +kernel
theorem dX12_keep_18 : decode cX12_keep 18 = .ok (.iload_n 3, 1) := by decide +kernel
theorem dX12_keep_19 : decode cX12_keep 19 = .ok (.iadd, 1) := by decide +kernel
theorem dX12_keep_20 : decode cX12_keep 20 = .ok (.aload_n 0, 1) := by decide +kernel
theorem dX12_keep_21 : decode cX12_keep 21 = .ok (.getfield 13, 3) := by decide +kernel
theorem dX12_keep_24 : decode cX12_keep 24 = .ok (.iload_n 3, 1) := by decide +kernel
theorem dX12_keep_25 : decode cX12_keep 25 = .ok (.iaload, 1) := by decide +kernel
theorem dX12_keep_26 : decode cX12_keep 26 = .ok (.iastore, 1) := by decide +kernel
theorem dX12_keep_27 : decode cX12_keep 27 = .ok (.iinc 3 1, 3) := by decide +kernel
theorem dX12_keep_30 : decode cX12_keep 30 = .ok (.goto (-23), 3) := by decide +kernel
theorem dX12_keep_33 : decode cX12_keep 33 = .ok (.aload_n 0, 1) := by decide +kernel
theorem dX12_keep_34 : decode cX12_keep 34 = .ok (.getfield 69, 3) := by decide +kernel
theorem dX12_keep_37 : decode cX12_keep 37 = .ok (.iload_n 2, 1) := by decide +kernel
theorem dX12_keep_38 : decode cX12_keep 38 = .ok (.bipush 32, 2) := by decide +kernel
theorem dX12_keep_40 : decode cX12_keep 40 = .ok (.iadd, 1) := by decide +kernel
theorem dX12_keep_41 : decode cX12_keep 41 = .ok (.aload_n 0, 1) := by decide +kernel
theorem dX12_keep_42 : decode cX12_keep 42 = .ok (.getfield 17, 3) := by decide +kernel
theorem dX12_keep_45 : decode cX12_keep 45 = .ok (.iconst 0, 1) := by decide +kernel
theorem dX12_keep_46 : decode cX12_keep 46 = .ok (.iaload, 1) := by decide +kernel
theorem dX12_keep_47 : decode cX12_keep 47 = .ok (.iastore, 1) := by decide +kernel
theorem dX12_keep_48 : decode cX12_keep 48 = .ok (.aload_n 0, 1) := by decide +kernel
theorem dX12_keep_49 : decode cX12_keep 49 = .ok (.getfield 69, 3) := by decide +kernel
theorem dX12_keep_52 : decode cX12_keep 52 = .ok (.iload_n 2, 1) := by decide +kernel
theorem dX12_keep_53 : decode cX12_keep 53 = .ok (.bipush 32, 2) := by decide +kernel
theorem dX12_keep_55 : decode cX12_keep 55 = .ok (.iadd, 1) := by decide +kernel
theorem dX12_keep_56 : decode cX12_keep 56 = .ok (.iconst 1, 1) := by decide +kernel
theorem dX12_keep_57 : decode cX12_keep 57 = .ok (.iadd, 1) := by decide +kernel
theorem dX12_keep_58 : decode cX12_keep 58 = .ok (.aload_n 0, 1) := by decide +kernel
theorem dX12_keep_59 : decode cX12_keep 59 = .ok (.getfield 17, 3) := by decide +kernel
theorem dX12_keep_62 : decode cX12_keep 62 = .ok (.iconst 1, 1) := by decide +kernel
theorem dX12_keep_63 : decode cX12_keep 63 = .ok (.iaload, 1) := by decide +kernel
theorem dX12_keep_64 : decode cX12_keep 64 = .ok (.iastore, 1) := by decide +kernel
theorem dX12_keep_65 : decode cX12_keep 65 = .ok (.aload_n 0, 1) := by decide +kernel
theorem dX12_keep_66 : decode cX12_keep 66 = .ok (.getfield 69, 3) := by decide +kernel
theorem dX12_keep_69 : decode cX12_keep 69 = .ok (.iload_n 2, 1) := by decide +kernel
theorem dX12_keep_70 : decode cX12_keep 70 = .ok (.bipush 32, 2) := by decide +kernel
theorem dX12_keep_72 : decode cX12_keep 72 = .ok (.iadd, 1) := by decide +kernel
theorem dX12_keep_73 : decode cX12_keep 73 = .ok (.iconst 2, 1) := by decide +kernel
theorem dX12_keep_74 : decode cX12_keep 74 = .ok (.iadd, 1) := by decide +kernel
theorem dX12_keep_75 : decode cX12_keep 75 = .ok (.aload_n 0, 1) := by decide +kernel
theorem dX12_keep_76 : decode cX12_keep 76 = .ok (.getfield 96, 3) := by decide +kernel
theorem dX12_keep_79 : decode cX12_keep 79 = .ok (.iastore, 1) := by decide +kernel
theorem dX12_keep_80 : decode cX12_keep 80 = .ok (.return_, 1) := by decide +kernel
theorem dX12_bring_0 : decode cX12_bring 0 = .ok (.iload_n 1, 1) := by decide +kernel
theorem dX12_bring_1 : decode cX12_bring 1 = .ok (.bipush 35, 2) := by decide +kernel
theorem dX12_bring_3 : decode cX12_bring 3 = .ok (.imul, 1) := by decide +kernel
theorem dX12_bring_4 : decode cX12_bring 4 = .ok (.istore_n 2, 1) := by decide +kernel
theorem dX12_bring_5 : decode cX12_bring 5 = .ok (.iconst 0, 1) := by decide +kernel
theorem dX12_bring_6 : decode cX12_bring 6 = .ok (.istore_n 3, 1) := by decide +kernel
theorem dX12_bring_7 : decode cX12_bring 7 = .ok (.iload_n 3, 1) := by decide +kernel
theorem dX12_bring_8 : decode cX12_bring 8 = .ok (.bipush 32, 2) := by decide +kernel
theorem dX12_bring_10 : decode cX12_bring 10 = .ok (.if_icmp .ge 23, 3) := by decide +kernel
theorem dX12_bring_13 : decode cX12_bring 13 = .ok (.aload_n 0, 1) := by decide +kernel
theorem dX12_bring_14 : decode cX12_bring 14 = .ok (.getfield 13, 3) := by decide +kernel
theorem dX12_bring_17 : decode cX12_bring 17 = .ok (.iload_n 3, 1) := by decide +kernel
theorem dX12_bring_18 : decode cX12_bring 18 = .ok (.aload_n 0, 1) := by decide +kernel
theorem dX12_bring_19 : decode cX12_bring 19 = .ok (.getfield 69, 3) := by decide +kernel
theorem dX12_bring_22 : decode cX12_bring 22 = .ok (.iload_n 2, 1) := by decide +kernel
theorem dX12_bring_23 : decode cX12_bring 23 = .ok (.iload_n 3, 1) := by decide +kernel
theorem dX12_bring_24 : decode cX12_bring 24 = .ok (.iadd, 1) := by decide +kernel
theorem dX12_bring_25 : decode cX12_bring 25 = .ok (.iaload, 1) := by decide +kernel
theorem dX12_bring_26 : decode cX12_bring 26 = .ok (.iastore, 1) := by decide +kernel
theorem dX12_bring_27 : decode cX12_bring 27 = .ok (.iinc 3 1, 3) := by decide +kernel
theorem dX12_bring_30 : decode cX12_bring 30 = .ok (.goto (-23), 3) := by decide +kernel
theorem dX12_bring_33 : decode cX12_bring 33 = .ok (.aload_n 0, 1) := by decide +kernel
theorem dX12_bring_34 : decode cX12_bring 34 = .ok (.getfield 17, 3) := by decide +kernel
theorem dX12_bring_37 : decode cX12_bring 37 = .ok (.iconst 0, 1) := by decide +kernel
theorem dX12_bring_38 : decode cX12_bring 38 = .ok (.aload_n 0, 1) := by decide +kernel
theorem dX12_bring_39 : decode cX12_bring 39 = .ok (.getfield 69, 3) := by decide +kernel
theorem dX12_bring_42 : decode cX12_bring 42 = .ok (.iload_n 2, 1) := by decide +kernel
theorem dX12_bring_43 : decode cX12_bring 43 = .ok (.bipush 32, 2) := by decide +kernel
theorem dX12_bring_45 : decode cX12_bring 45 = .ok (.iadd, 1) := by decide +kernel
theorem dX12_bring_46 : decode cX12_bring 46 = .ok (.iaload, 1) := by decide +kernel
theorem dX12_bring_47 : decode cX12_bring 47 = .ok (.iastore, 1) := by decide +kernel
theorem dX12_bring_48 : decode cX12_bring 48 = .ok (.aload_n 0, 1) := by decide +kernel
theorem dX12_bring_49 : decode cX12_bring 49 = .ok (.getfield 17, 3) := by decide +kernel
theorem dX12_bring_52 : decode cX12_bring 52 = .ok (.iconst 1, 1) := by decide +kernel
theorem dX12_bring_53 : decode cX12_bring 53 = .ok (.aload_n 0, 1) := by decide +kernel
theorem dX12_bring_54 : decode cX12_bring 54 = .ok (.getfield 69, 3) := by decide +kernel
theorem dX12_bring_57 : decode cX12_bring 57 = .ok (.iload_n 2, 1) := by decide +kernel
theorem dX12_bring_58 : decode cX12_bring 58 = .ok (.bipush 32, 2) := by decide +kernel
theorem dX12_bring_60 : decode cX12_bring 60 = .ok (.iadd, 1) := by decide +kernel
theorem dX12_bring_61 : decode cX12_bring 61 = .ok (.iconst 1, 1) := by decide +kernel
theorem dX12_bring_62 : decode cX12_bring 62 = .ok (.iadd, 1) := by decide +kernel
theorem dX12_bring_63 : decode cX12_bring 63 = .ok (.iaload, 1) := by decide +kernel
theorem dX12_bring_64 : decode cX12_bring 64 = .ok (.iastore, 1) := by decide +kernel
theorem dX12_bring_65 : decode cX12_bring 65 = .ok (.aload_n 0, 1) := by decide +kernel
theorem dX12_bring_66 : decode cX12_bring 66 = .ok (.aload_n 0, 1) := by decide +kernel
theorem dX12_bring_67 : decode cX12_bring 67 = .ok (.getfield 69, 3) := by decide +kernel
theorem dX12_bring_70 : decode cX12_bring 70 = .ok (.iload_n 2, 1) := by decide +kernel
theorem dX12_bring_71 : decode cX12_bring 71 = .ok (.bipush 32, 2) := by decide +kernel
theorem dX12_bring_73 : decode cX12_bring 73 = .ok (.iadd, 1) := by decide +kernel
theorem dX12_bring_74 : decode cX12_bring 74 = .ok (.iconst 2, 1) := by decide +kernel
theorem dX12_bring_75 : decode cX12_bring 75 = .ok (.iadd, 1) := by decide +kernel
theorem dX12_bring_76 : decode cX12_bring 76 = .ok (.iaload, 1) := by decide +kernel
theorem dX12_bring_77 : decode cX12_bring 77 = .ok (.putfield 96, 3) := by decide +kernel
theorem dX12_bring_80 : decode cX12_bring 80 = .ok (.return_, 1) := by decide +kernel
theorem dX12_moveFrom_0 : decode cX12_moveFrom 0 = .ok (.aload_n 0, 1) := by decide +kernel
theorem dX12_moveFrom_1 : decode cX12_moveFrom 1 = .ok (.aload_n 0, 1) := by decide +kernel
theorem dX12_moveFrom_2 : decode cX12_moveFrom 2 = .ok (.getfield 13, 3) := by decide +kernel
theorem dX12_moveFrom_5 : decode cX12_moveFrom 5 = .ok (.aload_n 0, 1) := by decide +kernel
theorem dX12_moveFrom_6 : decode cX12_moveFrom 6 = .ok (.getfield 96, 3) := by decide +kernel
theorem dX12_moveFrom_9 : decode cX12_moveFrom 9 = .ok (.iload_n 1, 1) := by decide +kernel
theorem dX12_moveFrom_10 : decode cX12_moveFrom 10 = .ok (.invokevirtual 172, 3) := by decide +kernel
theorem dX12_moveFrom_13 : decode cX12_moveFrom 13 = .ok (.aload_n 0, 1) := by decide +kernel
theorem dX12_moveFrom_14 : decode cX12_moveFrom 14 = .ok (.aload_n 0, 1) := by decide +kernel
theorem dX12_moveFrom_15 : decode cX12_moveFrom 15 = .ok (.getfield 121, 3) := by decide +kernel
theorem dX12_moveFrom_18 : decode cX12_moveFrom 18 = .ok (.invokevirtual 245, 3) := by decide +kernel
theorem dX12_moveFrom_21 : decode cX12_moveFrom 21 = .ok (.iconst 0, 1) := by decide +kernel
theorem dX12_moveFrom_22 : decode cX12_moveFrom 22 = .ok (.istore_n 2, 1) := by decide +kernel
theorem dX12_moveFrom_23 : decode cX12_moveFrom 23 = .ok (.iload_n 2, 1) := by decide +kernel
theorem dX12_moveFrom_24 : decode cX12_moveFrom 24 = .ok (.aload_n 0, 1) := by decide +kernel
theorem dX12_moveFrom_25 : decode cX12_moveFrom 25 = .ok (.invokevirtual 133, 3) := by decide +kernel
theorem dX12_moveFrom_28 : decode cX12_moveFrom 28 = .ok (.if_icmp .ge 21, 3) := by decide +kernel
theorem dX12_moveFrom_31 : decode cX12_moveFrom 31 = .ok (.aload_n 0, 1) := by decide +kernel
theorem dX12_moveFrom_32 : decode cX12_moveFrom 32 = .ok (.getfield 13, 3) := by decide +kernel
theorem dX12_moveFrom_35 : decode cX12_moveFrom 35 = .ok (.iload_n 2, 1) := by decide +kernel
theorem dX12_moveFrom_36 : decode cX12_moveFrom 36 = .ok (.aload_n 0, 1) := by decide +kernel
theorem dX12_moveFrom_37 : decode cX12_moveFrom 37 = .ok (.getfield 26, 3) := by decide +kernel
theorem dX12_moveFrom_40 : decode cX12_moveFrom 40 = .ok (.iload_n 2, 1) := by decide +kernel
theorem dX12_moveFrom_41 : decode cX12_moveFrom 41 = .ok (.iaload, 1) := by decide +kernel
theorem dX12_moveFrom_42 : decode cX12_moveFrom 42 = .ok (.iastore, 1) := by decide +kernel
theorem dX12_moveFrom_43 : decode cX12_moveFrom 43 = .ok (.iinc 2 1, 3) := by decide +kernel
theorem dX12_moveFrom_46 : decode cX12_moveFrom 46 = .ok (.goto (-23), 3) := by decide +kernel
theorem dX12_moveFrom_49 : decode cX12_moveFrom 49 = .ok (.aload_n 0, 1) := by decide +kernel
theorem dX12_moveFrom_50 : decode cX12_moveFrom 50 = .ok (.getfield 17, 3) := by decide +kernel
theorem dX12_moveFrom_53 : decode cX12_moveFrom 53 = .ok (.aload_n 0, 1) := by decide +kernel
theorem dX12_moveFrom_54 : decode cX12_moveFrom 54 = .ok (.getfield 96, 3) := by decide +kernel
theorem dX12_moveFrom_57 : decode cX12_moveFrom 57 = .ok (.dup2, 1) := by decide +kernel
theorem dX12_moveFrom_58 : decode cX12_moveFrom 58 = .ok (.iaload, 1) := by decide +kernel
theorem dX12_moveFrom_59 : decode cX12_moveFrom 59 = .ok (.aload_n 0, 1) := by decide +kernel
theorem dX12_moveFrom_60 : decode cX12_moveFrom 60 = .ok (.getfield 148, 3) := by decide +kernel
theorem dX12_moveFrom_63 : decode cX12_moveFrom 63 = .ok (.iadd, 1) := by decide +kernel
theorem dX12_moveFrom_64 : decode cX12_moveFrom 64 = .ok (.iastore, 1) := by decide +kernel
theorem dX12_moveFrom_65 : decode cX12_moveFrom 65 = .ok (.aload_n 0, 1) := by decide +kernel
theorem dX12_moveFrom_66 : decode cX12_moveFrom 66 = .ok (.iconst 1, 1) := by decide +kernel
theorem dX12_moveFrom_67 : decode cX12_moveFrom 67 = .ok (.aload_n 0, 1) := by decide +kernel
theorem dX12_moveFrom_68 : decode cX12_moveFrom 68 = .ok (.getfield 96, 3) := by decide +kernel
theorem dX12_moveFrom_71 : decode cX12_moveFrom 71 = .ok (.isub, 1) := by decide +kernel
theorem dX12_moveFrom_72 : decode cX12_moveFrom 72 = .ok (.putfield 96, 3) := by decide +kernel
theorem dX12_moveFrom_75 : decode cX12_moveFrom 75 = .ok (.aload_n 0, 1) := by decide +kernel
theorem dX12_moveFrom_76 : decode cX12_moveFrom 76 = .ok (.dup, 1) := by decide +kernel
theorem dX12_moveFrom_77 : decode cX12_moveFrom 77 = .ok (.getfield 121, 3) := by decide +kernel
theorem dX12_moveFrom_80 : decode cX12_moveFrom 80 = .ok (.iconst 1, 1) := by decide +kernel
theorem dX12_moveFrom_81 : decode cX12_moveFrom 81 = .ok (.iadd, 1) := by decide +kernel
theorem dX12_moveFrom_82 : decode cX12_moveFrom 82 = .ok (.putfield 121, 3) := by decide +kernel
theorem dX12_moveFrom_85 : decode cX12_moveFrom 85 = .ok (.aload_n 0, 1) := by decide +kernel
theorem dX12_moveFrom_86 : decode cX12_moveFrom 86 = .ok (.iconst 0, 1) := by decide +kernel
theorem dX12_moveFrom_87 : decode cX12_moveFrom 87 = .ok (.putfield 124, 3) := by decide +kernel
theorem dX12_moveFrom_90 : decode cX12_moveFrom 90 = .ok (.aload_n 0, 1) := by decide +kernel
theorem dX12_moveFrom_91 : decode cX12_moveFrom 91 = .ok (.aload_n 0, 1) := by decide +kernel
theorem dX12_moveFrom_92 : decode cX12_moveFrom 92 = .ok (.getfield 121, 3) := by decide +kernel
theorem dX12_moveFrom_95 : decode cX12_moveFrom 95 = .ok (.invokevirtual 245, 3) := by decide +kernel
theorem dX12_moveFrom_98 : decode cX12_moveFrom 98 = .ok (.aload_n 0, 1) := by decide +kernel
theorem dX12_moveFrom_99 : decode cX12_moveFrom 99 = .ok (.getfield 148, 3) := by decide +kernel
theorem dX12_moveFrom_102 : decode cX12_moveFrom 102 = .ok (.ireturn, 1) := by decide +kernel
theorem dX12_forget_0 : decode cX12_forget 0 = .ok (.aload_n 0, 1) := by decide +kernel
theorem dX12_forget_1 : decode cX12_forget 1 = .ok (.iconst 0, 1) := by decide +kernel
theorem dX12_forget_2 : decode cX12_forget 2 = .ok (.putfield 121, 3) := by decide +kernel
theorem dX12_forget_5 : decode cX12_forget 5 = .ok (.aload_n 0, 1) := by decide +kernel
theorem dX12_forget_6 : decode cX12_forget 6 = .ok (.iconst 0, 1) := by decide +kernel
theorem dX12_forget_7 : decode cX12_forget 7 = .ok (.putfield 124, 3) := by decide +kernel
theorem dX12_forget_10 : decode cX12_forget 10 = .ok (.return_, 1) := by decide +kernel
theorem dX12_otherGame_0 : decode cX12_otherGame 0 = .ok (.aload_n 0, 1) := by decide +kernel
theorem dX12_otherGame_1 : decode cX12_otherGame 1 = .ok (.invokevirtual 248, 3) := by decide +kernel
theorem dX12_otherGame_4 : decode cX12_otherGame 4 = .ok (.aload_n 0, 1) := by decide +kernel
theorem dX12_otherGame_5 : decode cX12_otherGame 5 = .ok (.iconst 0, 1) := by decide +kernel
theorem dX12_otherGame_6 : decode cX12_otherGame 6 = .ok (.putfield 127, 3) := by decide +kernel
theorem dX12_otherGame_9 : decode cX12_otherGame 9 = .ok (.return_, 1) := by decide +kernel
theorem dX12_follow_0 : decode cX12_follow 0 = .ok (.aload_n 0, 1) := by decide +kernel
theorem dX12_follow_1 : decode cX12_follow 1 = .ok (.iconst 1, 1) := by decide +kernel
theorem dX12_follow_2 : decode cX12_follow 2 = .ok (.putfield 130, 3) := by decide +kernel
theorem dX12_follow_5 : decode cX12_follow 5 = .ok (.aload_n 0, 1) := by decide +kernel
theorem dX12_follow_6 : decode cX12_follow 6 = .ok (.iconst 0, 1) := by decide +kernel
theorem dX12_follow_7 : decode cX12_follow 7 = .ok (.putfield 251, 3) := by decide +kernel
theorem dX12_follow_10 : decode cX12_follow 10 = .ok (.aload_n 0, 1) := by decide +kernel
theorem dX12_follow_11 : decode cX12_follow 11 = .ok (.iconst (-1), 1) := by decide +kernel
theorem dX12_follow_12 : decode cX12_follow 12 = .ok (.putfield 254, 3) := by decide +kernel
theorem dX12_follow_15 : decode cX12_follow 15 = .ok (.aload_n 0, 1) := by decide +kernel
theorem dX12_follow_16 : decode cX12_follow 16 = .ok (.getfield 75, 3) := by decide +kernel
theorem dX12_follow_19 : decode cX12_follow 19 = .ok (.iconst 0, 1) := by decide +kernel
theorem dX12_follow_20 : decode cX12_follow 20 = .ok (.iload_n 1, 1) := by decide +kernel
theorem dX12_follow_21 : decode cX12_follow 21 = .ok (.iastore, 1) := by decide +kernel
theorem dX12_follow_22 : decode cX12_follow 22 = .ok (.aload_n 0, 1) := by decide +kernel
theorem dX12_follow_23 : decode cX12_follow 23 = .ok (.getfield 251, 3) := by decide +kernel
theorem dX12_follow_26 : decode cX12_follow 26 = .ok (.sipush 400, 3) := by decide +kernel
theorem dX12_follow_29 : decode cX12_follow 29 = .ok (.if_icmp .ge 152, 3) := by decide +kernel
theorem dX12_follow_32 : decode cX12_follow 32 = .ok (.aload_n 0, 1) := by decide +kernel
theorem dX12_follow_33 : decode cX12_follow 33 = .ok (.getfield 254, 3) := by decide +kernel
theorem dX12_follow_36 : decode cX12_follow 36 = .ok (.iconst (-1), 1) := by decide +kernel
theorem dX12_follow_37 : decode cX12_follow 37 = .ok (.if_icmp .ne 144, 3) := by decide +kernel
theorem dX12_follow_40 : decode cX12_follow 40 = .ok (.aload_n 0, 1) := by decide +kernel
theorem dX12_follow_41 : decode cX12_follow 41 = .ok (.getfield 75, 3) := by decide +kernel
theorem dX12_follow_44 : decode cX12_follow 44 = .ok (.aload_n 0, 1) := by decide +kernel
theorem dX12_follow_45 : decode cX12_follow 45 = .ok (.getfield 251, 3) := by decide +kernel
theorem dX12_follow_48 : decode cX12_follow 48 = .ok (.iaload, 1) := by decide +kernel
theorem dX12_follow_49 : decode cX12_follow 49 = .ok (.istore_n 2, 1) := by decide +kernel
theorem dX12_follow_50 : decode cX12_follow 50 = .ok (.aload_n 0, 1) := by decide +kernel
theorem dX12_follow_51 : decode cX12_follow 51 = .ok (.iload_n 2, 1) := by decide +kernel
theorem dX12_follow_52 : decode cX12_follow 52 = .ok (.invokevirtual 257, 3) := by decide +kernel
theorem dX12_follow_55 : decode cX12_follow 55 = .ok (.istore_n 3, 1) := by decide +kernel
theorem dX12_follow_56 : decode cX12_follow 56 = .ok (.iload_n 3, 1) := by decide +kernel
theorem dX12_follow_57 : decode cX12_follow 57 = .ok (.iconst (-1), 1) := by decide +kernel
theorem dX12_follow_58 : decode cX12_follow 58 = .ok (.if_icmp .ne 8, 3) := by decide +kernel
theorem dX12_follow_61 : decode cX12_follow 61 = .ok (.aload_n 0, 1) := by decide +kernel
theorem dX12_follow_62 : decode cX12_follow 62 = .ok (.getfield 251, 3) := by decide +kernel
theorem dX12_follow_65 : decode cX12_follow 65 = .ok (.ireturn, 1) := by decide +kernel
theorem dX12_follow_66 : decode cX12_follow 66 = .ok (.aload_n 0, 1) := by decide +kernel
theorem dX12_follow_67 : decode cX12_follow 67 = .ok (.iload_n 2, 1) := by decide +kernel
theorem dX12_follow_68 : decode cX12_follow 68 = .ok (.i2l, 1) := by decide +kernel
theorem dX12_follow_69 : decode cX12_follow 69 = .ok (.invokevirtual 197, 3) := by decide +kernel
theorem dX12_follow_72 : decode cX12_follow 72 = .ok (.istore 4, 2) := by decide +kernel
theorem dX12_follow_74 : decode cX12_follow 74 = .ok (.aload_n 0, 1) := by decide +kernel
theorem dX12_follow_75 : decode cX12_follow 75 = .ok (.aload_n 0, 1) := by decide +kernel
theorem dX12_follow_76 : decode cX12_follow 76 = .ok (.getfield 29, 3) := by decide +kernel
theorem dX12_follow_79 : decode cX12_follow 79 = .ok (.iload 4, 2) := by decide +kernel
theorem dX12_follow_81 : decode cX12_follow 81 = .ok (.iload_n 3, 1) := by decide +kernel
theorem dX12_follow_82 : decode cX12_follow 82 = .ok (.invokevirtual 172, 3) := by decide +kernel
theorem dX12_follow_85 : decode cX12_follow 85 = .ok (.aload_n 0, 1) := by decide +kernel
theorem dX12_follow_86 : decode cX12_follow 86 = .ok (.getfield 72, 3) := by decide +kernel
theorem dX12_follow_89 : decode cX12_follow 89 = .ok (.aload_n 0, 1) := by decide +kernel
theorem dX12_follow_90 : decode cX12_follow 90 = .ok (.getfield 251, 3) := by decide +kernel
theorem dX12_follow_93 : decode cX12_follow 93 = .ok (.iload_n 3, 1) := by decide +kernel
theorem dX12_follow_94 : decode cX12_follow 94 = .ok (.iastore, 1) := by decide +kernel
theorem dX12_follow_95 : decode cX12_follow 95 = .ok (.aload_n 0, 1) := by decide +kernel
theorem dX12_follow_96 : decode cX12_follow 96 = .ok (.dup, 1) := by decide +kernel
theorem dX12_follow_97 : decode cX12_follow 97 = .ok (.getfield 251, 3) := by decide +kernel
theorem dX12_follow_100 : decode cX12_follow 100 = .ok (.iconst 1, 1) := by decide +kernel
theorem dX12_follow_101 : decode cX12_follow 101 = .ok (.iadd, 1) := by decide +kernel
theorem dX12_follow_102 : decode cX12_follow 102 = .ok (.putfield 251, 3) := by decide +kernel
theorem dX12_follow_105 : decode cX12_follow 105 = .ok (.aload_n 0, 1) := by decide +kernel
theorem dX12_follow_106 : decode cX12_follow 106 = .ok (.getfield 75, 3) := by decide +kernel
theorem dX12_follow_109 : decode cX12_follow 109 = .ok (.aload_n 0, 1) := by decide +kernel
theorem dX12_follow_110 : decode cX12_follow 110 = .ok (.getfield 251, 3) := by decide +kernel
theorem dX12_follow_113 : decode cX12_follow 113 = .ok (.aload_n 0, 1) := by decide +kernel
theorem dX12_follow_114 : decode cX12_follow 114 = .ok (.aload_n 0, 1) := by decide +kernel
theorem dX12_follow_115 : decode cX12_follow 115 = .ok (.getfield 26, 3) := by decide +kernel
theorem dX12_follow_118 : decode cX12_follow 118 = .ok (.iconst 1, 1) := by decide +kernel
theorem dX12_follow_119 : decode cX12_follow 119 = .ok (.iload 4, 2) := by decide +kernel
theorem dX12_follow_121 : decode cX12_follow 121 = .ok (.isub, 1) := by decide +kernel
theorem dX12_follow_122 : decode cX12_follow 122 = .ok (.invokevirtual 209, 3) := by decide +kernel
theorem dX12_follow_125 : decode cX12_follow 125 = .ok (.l2i, 1) := by decide +kernel
theorem dX12_follow_126 : decode cX12_follow 126 = .ok (.iastore, 1) := by decide +kernel
theorem dX12_follow_127 : decode cX12_follow 127 = .ok (.iconst 0, 1) := by decide +kernel
theorem dX12_follow_128 : decode cX12_follow 128 = .ok (.istore 5, 2) := by decide +kernel
theorem dX12_follow_130 : decode cX12_follow 130 = .ok (.iload 5, 2) := by decide +kernel
theorem dX12_follow_132 : decode cX12_follow 132 = .ok (.aload_n 0, 1) := by decide +kernel
theorem dX12_follow_133 : decode cX12_follow 133 = .ok (.getfield 251, 3) := by decide +kernel
theorem dX12_follow_136 : decode cX12_follow 136 = .ok (.if_icmp .ge 42, 3) := by decide +kernel
theorem dX12_follow_139 : decode cX12_follow 139 = .ok (.aload_n 0, 1) := by decide +kernel
theorem dX12_follow_140 : decode cX12_follow 140 = .ok (.getfield 254, 3) := by decide +kernel
theorem dX12_follow_143 : decode cX12_follow 143 = .ok (.iconst (-1), 1) := by decide +kernel
theorem dX12_follow_144 : decode cX12_follow 144 = .ok (.if_icmp .ne 34, 3) := by decide +kernel
theorem dX12_follow_147 : decode cX12_follow 147 = .ok (.aload_n 0, 1) := by decide +kernel
theorem dX12_follow_148 : decode cX12_follow 148 = .ok (.getfield 75, 3) := by decide +kernel
theorem dX12_follow_151 : decode cX12_follow 151 = .ok (.iload 5, 2) := by decide +kernel
theorem dX12_follow_153 : decode cX12_follow 153 = .ok (.iaload, 1) := by decide +kernel
theorem dX12_follow_154 : decode cX12_follow 154 = .ok (.aload_n 0, 1) := by decide +kernel
theorem dX12_follow_155 : decode cX12_follow 155 = .ok (.getfield 75, 3) := by decide +kernel
theorem dX12_follow_158 : decode cX12_follow 158 = .ok (.aload_n 0, 1) := by decide +kernel
theorem dX12_follow_159 : decode cX12_follow 159 = .ok (.getfield 251, 3) := by decide +kernel
theorem dX12_follow_162 : decode cX12_follow 162 = .ok (.iaload, 1) := by decide +kernel
theorem dX12_follow_163 : decode cX12_follow 163 = .ok (.if_icmp .ne 9, 3) := by decide +kernel
theorem dX12_follow_166 : decode cX12_follow 166 = .ok (.aload_n 0, 1) := by decide +kernel
theorem dX12_follow_167 : decode cX12_follow 167 = .ok (.iload 5, 2) := by decide +kernel
theorem dX12_follow_169 : decode cX12_follow 169 = .ok (.putfield 254, 3) := by decide +kernel
theorem dX12_follow_172 : decode cX12_follow 172 = .ok (.iinc 5 1, 3) := by decide +kernel
theorem dX12_follow_175 : decode cX12_follow 175 = .ok (.goto (-45), 3) := by decide +kernel
theorem dX12_follow_178 : decode cX12_follow 178 = .ok (.goto (-156), 3) := by decide +kernel
theorem dX12_follow_181 : decode cX12_follow 181 = .ok (.aload_n 0, 1) := by decide +kernel
theorem dX12_follow_182 : decode cX12_follow 182 = .ok (.getfield 251, 3) := by decide +kernel
theorem dX12_follow_185 : decode cX12_follow 185 = .ok (.ireturn, 1) := by decide +kernel
theorem dX12_chosen_0 : decode cX12_chosen 0 = .ok (.aload_n 0, 1) := by decide +kernel
theorem dX12_chosen_1 : decode cX12_chosen 1 = .ok (.aload_n 0, 1) := by decide +kernel
theorem dX12_chosen_2 : decode cX12_chosen 2 = .ok (.getfield 13, 3) := by decide +kernel
theorem dX12_chosen_5 : decode cX12_chosen 5 = .ok (.aload_n 0, 1) := by decide +kernel
theorem dX12_chosen_6 : decode cX12_chosen 6 = .ok (.getfield 96, 3) := by decide +kernel
theorem dX12_chosen_9 : decode cX12_chosen 9 = .ok (.aload_n 0, 1) := by decide +kernel
theorem dX12_chosen_10 : decode cX12_chosen 10 = .ok (.getfield 65, 3) := by decide +kernel
theorem dX12_chosen_13 : decode cX12_chosen 13 = .ok (.invokevirtual 201, 3) := by decide +kernel
theorem dX12_chosen_16 : decode cX12_chosen 16 = .ok (.istore_n 1, 1) := by decide +kernel
theorem dX12_chosen_17 : decode cX12_chosen 17 = .ok (.aload_n 0, 1) := by decide +kernel
theorem dX12_chosen_18 : decode cX12_chosen 18 = .ok (.getfield 78, 3) := by decide +kernel
theorem dX12_chosen_21 : decode cX12_chosen 21 = .ok (.aload_n 0, 1) := by decide +kernel
theorem dX12_chosen_22 : decode cX12_chosen 22 = .ok (.getfield 96, 3) := by decide +kernel
theorem dX12_chosen_25 : decode cX12_chosen 25 = .ok (.iaload, 1) := by decide +kernel
theorem dX12_chosen_26 : decode cX12_chosen 26 = .ok (.istore_n 2, 1) := by decide +kernel
theorem dX12_chosen_27 : decode cX12_chosen 27 = .ok (.iconst 0, 1) := by decide +kernel
theorem dX12_chosen_28 : decode cX12_chosen 28 = .ok (.istore_n 3, 1) := by decide +kernel
theorem dX12_chosen_29 : decode cX12_chosen 29 = .ok (.aload_n 0, 1) := by decide +kernel
theorem dX12_chosen_30 : decode cX12_chosen 30 = .ok (.getfield 65, 3) := by decide +kernel
theorem dX12_chosen_33 : decode cX12_chosen 33 = .ok (.iload_n 3, 1) := by decide +kernel
theorem dX12_chosen_34 : decode cX12_chosen 34 = .ok (.baload, 1) := by decide +kernel
theorem dX12_chosen_35 : decode cX12_chosen 35 = .ok (.ifCond .ne 9, 3) := by decide +kernel
theorem dX12_chosen_38 : decode cX12_chosen 38 = .ok (.iinc 3 1, 3) := by decide +kernel
theorem dX12_chosen_41 : decode cX12_chosen 41 = .ok (.goto (-12), 3) := by decide +kernel
theorem dX12_chosen_44 : decode cX12_chosen 44 = .ok (.iload_n 2, 1) := by decide +kernel
theorem dX12_chosen_45 : decode cX12_chosen 45 = .ok (.iconst 1, 1) := by decide +kernel
theorem dX12_chosen_46 : decode cX12_chosen 46 = .ok (.if_icmp .ne 79, 3) := by decide +kernel
theorem dX12_chosen_49 : decode cX12_chosen 49 = .ok (.iconst (-1), 1) := by decide +kernel
theorem dX12_chosen_50 : decode cX12_chosen 50 = .ok (.istore 4, 2) := by decide +kernel
theorem dX12_chosen_52 : decode cX12_chosen 52 = .ok (.iload_n 3, 1) := by decide +kernel
theorem dX12_chosen_53 : decode cX12_chosen 53 = .ok (.istore 5, 2) := by decide +kernel
theorem dX12_chosen_55 : decode cX12_chosen 55 = .ok (.iload_n 3, 1) := by decide +kernel
theorem dX12_chosen_56 : decode cX12_chosen 56 = .ok (.istore 6, 2) := by decide +kernel
theorem dX12_chosen_58 : decode cX12_chosen 58 = .ok (.iload 6, 2) := by decide +kernel
theorem dX12_chosen_60 : decode cX12_chosen 60 = .ok (.aload_n 0, 1) := by decide +kernel
theorem dX12_chosen_61 : decode cX12_chosen 61 = .ok (.invokevirtual 133, 3) := by decide +kernel
theorem dX12_chosen_64 : decode cX12_chosen 64 = .ok (.if_icmp .ge 58, 3) := by decide +kernel
theorem dX12_chosen_67 : decode cX12_chosen 67 = .ok (.aload_n 0, 1) := by decide +kernel
theorem dX12_chosen_68 : decode cX12_chosen 68 = .ok (.getfield 65, 3) := by decide +kernel
theorem dX12_chosen_71 : decode cX12_chosen 71 = .ok (.iload 6, 2) := by decide +kernel
theorem dX12_chosen_73 : decode cX12_chosen 73 = .ok (.baload, 1) := by decide +kernel
theorem dX12_chosen_74 : decode cX12_chosen 74 = .ok (.ifCond .ne 6, 3) := by decide +kernel
theorem dX12_chosen_77 : decode cX12_chosen 77 = .ok (.goto 39, 3) := by decide +kernel
theorem dX12_chosen_80 : decode cX12_chosen 80 = .ok (.aload_n 0, 1) := by decide +kernel
theorem dX12_chosen_81 : decode cX12_chosen 81 = .ok (.aload_n 0, 1) := by decide +kernel
theorem dX12_chosen_82 : decode cX12_chosen 82 = .ok (.getfield 13, 3) := by decide +kernel
theorem dX12_chosen_85 : decode cX12_chosen 85 = .ok (.aload_n 0, 1) := by decide +kernel
theorem dX12_chosen_86 : decode cX12_chosen 86 = .ok (.getfield 96, 3) := by decide +kernel
theorem dX12_chosen_89 : decode cX12_chosen 89 = .ok (.iload 6, 2) := by decide +kernel
theorem dX12_chosen_91 : decode cX12_chosen 91 = .ok (.invokevirtual 172, 3) := by decide +kernel
theorem dX12_chosen_94 : decode cX12_chosen 94 = .ok (.aload_n 0, 1) := by decide +kernel
theorem dX12_chosen_95 : decode cX12_chosen 95 = .ok (.getfield 148, 3) := by decide +kernel
theorem dX12_chosen_98 : decode cX12_chosen 98 = .ok (.iload 4, 2) := by decide +kernel
theorem dX12_chosen_100 : decode cX12_chosen 100 = .ok (.if_icmp .gt 6, 3) := by decide +kernel
theorem dX12_chosen_103 : decode cX12_chosen 103 = .ok (.goto 13, 3) := by decide +kernel
theorem dX12_chosen_106 : decode cX12_chosen 106 = .ok (.aload_n 0, 1) := by decide +kernel
theorem dX12_chosen_107 : decode cX12_chosen 107 = .ok (.getfield 148, 3) := by decide +kernel
theorem dX12_chosen_110 : decode cX12_chosen 110 = .ok (.istore 4, 2) := by decide +kernel
theorem dX12_chosen_112 : decode cX12_chosen 112 = .ok (.iload 6, 2) := by decide +kernel
theorem dX12_chosen_114 : decode cX12_chosen 114 = .ok (.istore 5, 2) := by decide +kernel
theorem dX12_chosen_116 : decode cX12_chosen 116 = .ok (.iinc 6 1, 3) := by decide +kernel
theorem dX12_chosen_119 : decode cX12_chosen 119 = .ok (.goto (-61), 3) := by decide +kernel
theorem dX12_chosen_122 : decode cX12_chosen 122 = .ok (.iload 5, 2) := by decide +kernel
theorem dX12_chosen_124 : decode cX12_chosen 124 = .ok (.ireturn, 1) := by decide +kernel
theorem dX12_chosen_125 : decode cX12_chosen 125 = .ok (.iload_n 2, 1) := by decide +kernel
theorem dX12_chosen_126 : decode cX12_chosen 126 = .ok (.iconst 2, 1) := by decide +kernel
theorem dX12_chosen_127 : decode cX12_chosen 127 = .ok (.if_icmp .ne 43, 3) := by decide +kernel
theorem dX12_chosen_130 : decode cX12_chosen 130 = .ok (.aload_n 0, 1) := by decide +kernel
theorem dX12_chosen_131 : decode cX12_chosen 131 = .ok (.getfield 127, 3) := by decide +kernel
theorem dX12_chosen_134 : decode cX12_chosen 134 = .ok (.ifCond .eq 36, 3) := by decide +kernel
theorem dX12_chosen_137 : decode cX12_chosen 137 = .ok (.aload_n 0, 1) := by decide +kernel
theorem dX12_chosen_138 : decode cX12_chosen 138 = .ok (.aload_n 0, 1) := by decide +kernel
theorem dX12_chosen_139 : decode cX12_chosen 139 = .ok (.getfield 13, 3) := by decide +kernel
theorem dX12_chosen_142 : decode cX12_chosen 142 = .ok (.invokevirtual 189, 3) := by decide +kernel
theorem dX12_chosen_145 : decode cX12_chosen 145 = .ok (.aload_n 0, 1) := by decide +kernel
theorem dX12_chosen_146 : decode cX12_chosen 146 = .ok (.getfield 225, 3) := by decide +kernel
theorem dX12_chosen_149 : decode cX12_chosen 149 = .ok (.if_icmp .ge 21, 3) := by decide +kernel
theorem dX12_chosen_152 : decode cX12_chosen 152 = .ok (.aload_n 0, 1) := by decide +kernel
theorem dX12_chosen_153 : decode cX12_chosen 153 = .ok (.aload_n 0, 1) := by decide +kernel
theorem dX12_chosen_154 : decode cX12_chosen 154 = .ok (.aload_n 0, 1) := by decide +kernel
theorem dX12_chosen_155 : decode cX12_chosen 155 = .ok (.getfield 13, 3) := by decide +kernel
theorem dX12_chosen_158 : decode cX12_chosen 158 = .ok (.aload_n 0, 1) := by decide +kernel
theorem dX12_chosen_159 : decode cX12_chosen 159 = .ok (.getfield 96, 3) := by decide +kernel
theorem dX12_chosen_162 : decode cX12_chosen 162 = .ok (.invokevirtual 209, 3) := by decide +kernel
theorem dX12_chosen_165 : decode cX12_chosen 165 = .ok (.l2i, 1) := by decide +kernel
theorem dX12_chosen_166 : decode cX12_chosen 166 = .ok (.invokevirtual 257, 3) := by decide +kernel
theorem dX12_chosen_169 : decode cX12_chosen 169 = .ok (.ireturn, 1) := by decide +kernel
theorem dX12_chosen_170 : decode cX12_chosen 170 = .ok (.iload_n 2, 1) := by decide +kernel
theorem dX12_chosen_171 : decode cX12_chosen 171 = .ok (.iconst 3, 1) := by decide +kernel
theorem dX12_chosen_172 : decode cX12_chosen 172 = .ok (.if_icmp .eq 5, 3) := by decide +kernel
theorem dX12_chosen_175 : decode cX12_chosen 175 = .ok (.iload_n 3, 1) := by decide +kernel
theorem dX12_chosen_176 : decode cX12_chosen 176 = .ok (.ireturn, 1) := by decide +kernel
theorem dX12_chosen_177 : decode cX12_chosen 177 = .ok (.aload_n 0, 1) := by decide +kernel
theorem dX12_chosen_178 : decode cX12_chosen 178 = .ok (.getfield 81, 3) := by decide +kernel
theorem dX12_chosen_181 : decode cX12_chosen 181 = .ok (.aload_n 0, 1) := by decide +kernel
theorem dX12_chosen_182 : decode cX12_chosen 182 = .ok (.getfield 96, 3) := by decide +kernel
theorem dX12_chosen_185 : decode cX12_chosen 185 = .ok (.laload, 1) := by decide +kernel
theorem dX12_chosen_186 : decode cX12_chosen 186 = .ok (.lstore 4, 2) := by decide +kernel
theorem dX12_chosen_188 : decode cX12_chosen 188 = .ok (.lload 4, 2) := by decide +kernel
theorem dX12_chosen_190 : decode cX12_chosen 190 = .ok (.lload 4, 2) := by decide +kernel
theorem dX12_chosen_192 : decode cX12_chosen 192 = .ok (.bipush 13, 2) := by decide +kernel
theorem dX12_chosen_194 : decode cX12_chosen 194 = .ok (.lshl, 1) := by decide +kernel
theorem dX12_chosen_195 : decode cX12_chosen 195 = .ok (.lxor, 1) := by decide +kernel
theorem dX12_chosen_196 : decode cX12_chosen 196 = .ok (.lstore 4, 2) := by decide +kernel
theorem dX12_chosen_198 : decode cX12_chosen 198 = .ok (.lload 4, 2) := by decide +kernel
theorem dX12_chosen_200 : decode cX12_chosen 200 = .ok (.lload 4, 2) := by decide +kernel
theorem dX12_chosen_202 : decode cX12_chosen 202 = .ok (.bipush 7, 2) := by decide +kernel
theorem dX12_chosen_204 : decode cX12_chosen 204 = .ok (.lushr, 1) := by decide +kernel
theorem dX12_chosen_205 : decode cX12_chosen 205 = .ok (.lxor, 1) := by decide +kernel
theorem dX12_chosen_206 : decode cX12_chosen 206 = .ok (.lstore 4, 2) := by decide +kernel
theorem dX12_chosen_208 : decode cX12_chosen 208 = .ok (.lload 4, 2) := by decide +kernel
theorem dX12_chosen_210 : decode cX12_chosen 210 = .ok (.lload 4, 2) := by decide +kernel
theorem dX12_chosen_212 : decode cX12_chosen 212 = .ok (.bipush 17, 2) := by decide +kernel
theorem dX12_chosen_214 : decode cX12_chosen 214 = .ok (.lshl, 1) := by decide +kernel
theorem dX12_chosen_215 : decode cX12_chosen 215 = .ok (.lxor, 1) := by decide +kernel
theorem dX12_chosen_216 : decode cX12_chosen 216 = .ok (.lstore 4, 2) := by decide +kernel
theorem dX12_chosen_218 : decode cX12_chosen 218 = .ok (.aload_n 0, 1) := by decide +kernel
theorem dX12_chosen_219 : decode cX12_chosen 219 = .ok (.getfield 81, 3) := by decide +kernel
theorem dX12_chosen_222 : decode cX12_chosen 222 = .ok (.aload_n 0, 1) := by decide +kernel
theorem dX12_chosen_223 : decode cX12_chosen 223 = .ok (.getfield 96, 3) := by decide +kernel
theorem dX12_chosen_226 : decode cX12_chosen 226 = .ok (.lload 4, 2) := by decide +kernel
theorem dX12_chosen_228 : decode cX12_chosen 228 = .ok (.lastore, 1) := by decide +kernel
theorem dX12_chosen_229 : decode cX12_chosen 229 = .ok (.lload 4, 2) := by decide +kernel
theorem dX12_chosen_231 : decode cX12_chosen 231 = .ok (.iconst 1, 1) := by decide +kernel
theorem dX12_chosen_232 : decode cX12_chosen 232 = .ok (.lushr, 1) := by decide +kernel
theorem dX12_chosen_233 : decode cX12_chosen 233 = .ok (.iload_n 1, 1) := by decide +kernel
theorem dX12_chosen_234 : decode cX12_chosen 234 = .ok (.i2l, 1) := by decide +kernel
theorem dX12_chosen_235 : decode cX12_chosen 235 = .ok (.lrem, 1) := by decide +kernel
theorem dX12_chosen_236 : decode cX12_chosen 236 = .ok (.l2i, 1) := by decide +kernel
theorem dX12_chosen_237 : decode cX12_chosen 237 = .ok (.istore 6, 2) := by decide +kernel
theorem dX12_chosen_239 : decode cX12_chosen 239 = .ok (.iload_n 3, 1) := by decide +kernel
theorem dX12_chosen_240 : decode cX12_chosen 240 = .ok (.istore 7, 2) := by decide +kernel
theorem dX12_chosen_242 : decode cX12_chosen 242 = .ok (.iload 6, 2) := by decide +kernel
theorem dX12_chosen_244 : decode cX12_chosen 244 = .ok (.ifCond .le 29, 3) := by decide +kernel
theorem dX12_chosen_247 : decode cX12_chosen 247 = .ok (.iinc 7 1, 3) := by decide +kernel
theorem dX12_chosen_250 : decode cX12_chosen 250 = .ok (.iload 6, 2) := by decide +kernel
theorem dX12_chosen_252 : decode cX12_chosen 252 = .ok (.aload_n 0, 1) := by decide +kernel
theorem dX12_chosen_253 : decode cX12_chosen 253 = .ok (.getfield 65, 3) := by decide +kernel
theorem dX12_chosen_256 : decode cX12_chosen 256 = .ok (.iload 7, 2) := by decide +kernel
theorem dX12_chosen_258 : decode cX12_chosen 258 = .ok (.baload, 1) := by decide +kernel
theorem dX12_chosen_259 : decode cX12_chosen 259 = .ok (.ifCond .eq 7, 3) := by decide +kernel
theorem dX12_chosen_262 : decode cX12_chosen 262 = .ok (.iconst 1, 1) := by decide +kernel
theorem dX12_chosen_263 : decode cX12_chosen 263 = .ok (.goto 4, 3) := by decide +kernel
theorem dX12_chosen_266 : decode cX12_chosen 266 = .ok (.iconst 0, 1) := by decide +kernel
theorem dX12_chosen_267 : decode cX12_chosen 267 = .ok (.isub, 1) := by decide +kernel
theorem dX12_chosen_268 : decode cX12_chosen 268 = .ok (.istore 6, 2) := by decide +kernel
theorem dX12_chosen_270 : decode cX12_chosen 270 = .ok (.goto (-28), 3) := by decide +kernel
theorem dX12_chosen_273 : decode cX12_chosen 273 = .ok (.iload 7, 2) := by decide +kernel
theorem dX12_chosen_275 : decode cX12_chosen 275 = .ok (.ireturn, 1) := by decide +kernel
theorem dX12_ok_0 : decode cX12_ok 0 = .ok (.aload_n 0, 1) := by decide +kernel
theorem dX12_ok_1 : decode cX12_ok 1 = .ok (.iconst 0, 1) := by decide +kernel
theorem dX12_ok_2 : decode cX12_ok 2 = .ok (.putfield 260, 3) := by decide +kernel
theorem dX12_ok_5 : decode cX12_ok 5 = .ok (.iload_n 1, 1) := by decide +kernel
theorem dX12_ok_6 : decode cX12_ok 6 = .ok (.ireturn, 1) := by decide +kernel
theorem dX12_no_0 : decode cX12_no 0 = .ok (.aload_n 0, 1) := by decide +kernel
theorem dX12_no_1 : decode cX12_no 1 = .ok (.iload_n 1, 1) := by decide +kernel
theorem dX12_no_2 : decode cX12_no 2 = .ok (.putfield 260, 3) := by decide +kernel
theorem dX12_no_5 : decode cX12_no 5 = .ok (.iconst (-1), 1) := by decide +kernel
theorem dX12_no_6 : decode cX12_no 6 = .ok (.ireturn, 1) := by decide +kernel
theorem dX12_pitWhy_0 : decode cX12_pitWhy 0 = .ok (.iload_n 1, 1) := by decide +kernel
theorem dX12_pitWhy_1 : decode cX12_pitWhy 1 = .ok (.i2l, 1) := by decide +kernel
theorem dX12_pitWhy_2 : decode cX12_pitWhy 2 = .ok (.lconst 0, 1) := by decide +kernel
theorem dX12_pitWhy_3 : decode cX12_pitWhy 3 = .ok (.aload_n 0, 1) := by decide +kernel
theorem dX12_pitWhy_4 : decode cX12_pitWhy 4 = .ok (.getfield 89, 3) := by decide +kernel
theorem dX12_pitWhy_7 : decode cX12_pitWhy 7 = .ok (.iconst 1, 1) := by decide +kernel
theorem dX12_pitWhy_8 : decode cX12_pitWhy 8 = .ok (.isub, 1) := by decide +kernel
theorem dX12_pitWhy_9 : decode cX12_pitWhy 9 = .ok (.i2l, 1) := by decide +kernel
theorem dX12_pitWhy_10 : decode cX12_pitWhy 10 = .ok (.invokestatic 164, 3) := by decide +kernel
theorem dX12_pitWhy_13 : decode cX12_pitWhy 13 = .ok (.ifCond .ne 7, 3) := by decide +kernel
theorem dX12_pitWhy_16 : decode cX12_pitWhy 16 = .ok (.iconst 2, 1) := by decide +kernel
theorem dX12_pitWhy_17 : decode cX12_pitWhy 17 = .ok (.goto 44, 3) := by decide +kernel
theorem dX12_pitWhy_20 : decode cX12_pitWhy 20 = .ok (.iload_n 2, 1) := by decide +kernel
theorem dX12_pitWhy_21 : decode cX12_pitWhy 21 = .ok (.i2l, 1) := by decide +kernel
theorem dX12_pitWhy_22 : decode cX12_pitWhy 22 = .ok (.lconst 0, 1) := by decide +kernel
theorem dX12_pitWhy_23 : decode cX12_pitWhy 23 = .ok (.aload_n 0, 1) := by decide +kernel
theorem dX12_pitWhy_24 : decode cX12_pitWhy 24 = .ok (.getfield 93, 3) := by decide +kernel
theorem dX12_pitWhy_27 : decode cX12_pitWhy 27 = .ok (.iconst 1, 1) := by decide +kernel
theorem dX12_pitWhy_28 : decode cX12_pitWhy 28 = .ok (.isub, 1) := by decide +kernel
theorem dX12_pitWhy_29 : decode cX12_pitWhy 29 = .ok (.i2l, 1) := by decide +kernel
theorem dX12_pitWhy_30 : decode cX12_pitWhy 30 = .ok (.invokestatic 164, 3) := by decide +kernel
theorem dX12_pitWhy_33 : decode cX12_pitWhy 33 = .ok (.ifCond .ne 7, 3) := by decide +kernel
theorem dX12_pitWhy_36 : decode cX12_pitWhy 36 = .ok (.iconst 3, 1) := by decide +kernel
theorem dX12_pitWhy_37 : decode cX12_pitWhy 37 = .ok (.goto 24, 3) := by decide +kernel
theorem dX12_pitWhy_40 : decode cX12_pitWhy 40 = .ok (.aload_n 0, 1) := by decide +kernel
theorem dX12_pitWhy_41 : decode cX12_pitWhy 41 = .ok (.getfield 9, 3) := by decide +kernel
theorem dX12_pitWhy_44 : decode cX12_pitWhy 44 = .ok (.iload_n 1, 1) := by decide +kernel
theorem dX12_pitWhy_45 : decode cX12_pitWhy 45 = .ok (.aload_n 0, 1) := by decide +kernel
theorem dX12_pitWhy_46 : decode cX12_pitWhy 46 = .ok (.getfield 93, 3) := by decide +kernel
theorem dX12_pitWhy_49 : decode cX12_pitWhy 49 = .ok (.imul, 1) := by decide +kernel
theorem dX12_pitWhy_50 : decode cX12_pitWhy 50 = .ok (.iload_n 2, 1) := by decide +kernel
theorem dX12_pitWhy_51 : decode cX12_pitWhy 51 = .ok (.iadd, 1) := by decide +kernel
theorem dX12_pitWhy_52 : decode cX12_pitWhy 52 = .ok (.baload, 1) := by decide +kernel
theorem dX12_pitWhy_53 : decode cX12_pitWhy 53 = .ok (.ifCond .eq 7, 3) := by decide +kernel
theorem dX12_pitWhy_56 : decode cX12_pitWhy 56 = .ok (.iconst 1, 1) := by decide +kernel
theorem dX12_pitWhy_57 : decode cX12_pitWhy 57 = .ok (.goto 4, 3) := by decide +kernel
theorem dX12_pitWhy_60 : decode cX12_pitWhy 60 = .ok (.iconst 0, 1) := by decide +kernel
theorem dX12_pitWhy_61 : decode cX12_pitWhy 61 = .ok (.ireturn, 1) := by decide +kernel
theorem dX12_board_0 : decode cX12_board 0 = .ok (.iload_n 1, 1) := by decide +kernel
theorem dX12_board_1 : decode cX12_board 1 = .ok (.iconst 2, 1) := by decide +kernel
theorem dX12_board_2 : decode cX12_board 2 = .ok (.if_icmp .eq 8, 3) := by decide +kernel
theorem dX12_board_5 : decode cX12_board 5 = .ok (.iload_n 1, 1) := by decide +kernel
theorem dX12_board_6 : decode cX12_board 6 = .ok (.iconst 4, 1) := by decide +kernel
theorem dX12_board_7 : decode cX12_board 7 = .ok (.if_icmp .ne 15, 3) := by decide +kernel
theorem dX12_board_10 : decode cX12_board 10 = .ok (.iload_n 2, 1) := by decide +kernel
theorem dX12_board_11 : decode cX12_board 11 = .ok (.i2l, 1) := by decide +kernel
theorem dX12_board_12 : decode cX12_board 12 = .ok (.lconst 1, 1) := by decide +kernel
theorem dX12_board_13 : decode cX12_board 13 = .ok (.ldc2_w 263, 3) := by decide +kernel
theorem dX12_board_16 : decode cX12_board 16 = .ok (.invokestatic 164, 3) := by decide +kernel
theorem dX12_board_19 : decode cX12_board 19 = .ok (.ifCond .ne 10, 3) := by decide +kernel
theorem dX12_board_22 : decode cX12_board 22 = .ok (.aload_n 0, 1) := by decide +kernel
theorem dX12_board_23 : decode cX12_board 23 = .ok (.bipush 7, 2) := by decide +kernel
theorem dX12_board_25 : decode cX12_board 25 = .ok (.invokevirtual 265, 3) := by decide +kernel
theorem dX12_board_28 : decode cX12_board 28 = .ok (.ireturn, 1) := by decide +kernel
theorem dX12_board_29 : decode cX12_board 29 = .ok (.aload_n 0, 1) := by decide +kernel
theorem dX12_board_30 : decode cX12_board 30 = .ok (.iload_n 1, 1) := by decide +kernel
theorem dX12_board_31 : decode cX12_board 31 = .ok (.iload_n 2, 1) := by decide +kernel
theorem dX12_board_32 : decode cX12_board 32 = .ok (.invokevirtual 85, 3) := by decide +kernel
theorem dX12_board_35 : decode cX12_board 35 = .ok (.aload_n 0, 1) := by decide +kernel
theorem dX12_board_36 : decode cX12_board 36 = .ok (.aload_n 0, 1) := by decide +kernel
theorem dX12_board_37 : decode cX12_board 37 = .ok (.invokevirtual 133, 3) := by decide +kernel
theorem dX12_board_40 : decode cX12_board 40 = .ok (.invokevirtual 268, 3) := by decide +kernel
theorem dX12_board_43 : decode cX12_board 43 = .ok (.ireturn, 1) := by decide +kernel
theorem dX12_lack_0 : decode cX12_lack 0 = .ok (.aload_n 0, 1) := by decide +kernel
theorem dX12_lack_1 : decode cX12_lack 1 = .ok (.iload_n 1, 1) := by decide +kernel
theorem dX12_lack_2 : decode cX12_lack 2 = .ok (.iload_n 2, 1) := by decide +kernel
theorem dX12_lack_3 : decode cX12_lack 3 = .ok (.invokevirtual 271, 3) := by decide +kernel
theorem dX12_lack_6 : decode cX12_lack 6 = .ok (.istore_n 3, 1) := by decide +kernel
theorem dX12_lack_7 : decode cX12_lack 7 = .ok (.iload_n 1, 1) := by decide +kernel
theorem dX12_lack_8 : decode cX12_lack 8 = .ok (.aload_n 0, 1) := by decide +kernel
theorem dX12_lack_9 : decode cX12_lack 9 = .ok (.getfield 93, 3) := by decide +kernel
theorem dX12_lack_12 : decode cX12_lack 12 = .ok (.imul, 1) := by decide +kernel
theorem dX12_lack_13 : decode cX12_lack 13 = .ok (.iload_n 2, 1) := by decide +kernel
theorem dX12_lack_14 : decode cX12_lack 14 = .ok (.iadd, 1) := by decide +kernel
theorem dX12_lack_15 : decode cX12_lack 15 = .ok (.istore 4, 2) := by decide +kernel
theorem dX12_lack_17 : decode cX12_lack 17 = .ok (.iload_n 3, 1) := by decide +kernel
theorem dX12_lack_18 : decode cX12_lack 18 = .ok (.ifCond .ne 24, 3) := by decide +kernel
theorem dX12_lack_21 : decode cX12_lack 21 = .ok (.aload_n 0, 1) := by decide +kernel
theorem dX12_lack_22 : decode cX12_lack 22 = .ok (.getfield 13, 3) := by decide +kernel
theorem dX12_lack_25 : decode cX12_lack 25 = .ok (.iload 4, 2) := by decide +kernel
theorem dX12_lack_27 : decode cX12_lack 27 = .ok (.iaload, 1) := by decide +kernel
theorem dX12_lack_28 : decode cX12_lack 28 = .ok (.ifCond .gt 11, 3) := by decide +kernel
theorem dX12_lack_31 : decode cX12_lack 31 = .ok (.aload_n 0, 1) := by decide +kernel
theorem dX12_lack_32 : decode cX12_lack 32 = .ok (.invokevirtual 180, 3) := by decide +kernel
theorem dX12_lack_35 : decode cX12_lack 35 = .ok (.iconst 1, 1) := by decide +kernel
theorem dX12_lack_36 : decode cX12_lack 36 = .ok (.if_icmp .ne 6, 3) := by decide +kernel
theorem dX12_lack_39 : decode cX12_lack 39 = .ok (.bipush 7, 2) := by decide +kernel
theorem dX12_lack_41 : decode cX12_lack 41 = .ok (.istore_n 3, 1) := by decide +kernel
theorem dX12_lack_42 : decode cX12_lack 42 = .ok (.iload_n 3, 1) := by decide +kernel
theorem dX12_lack_43 : decode cX12_lack 43 = .ok (.ifCond .le 9, 3) := by decide +kernel
theorem dX12_lack_46 : decode cX12_lack 46 = .ok (.aload_n 0, 1) := by decide +kernel
theorem dX12_lack_47 : decode cX12_lack 47 = .ok (.iload_n 3, 1) := by decide +kernel
theorem dX12_lack_48 : decode cX12_lack 48 = .ok (.invokevirtual 265, 3) := by decide +kernel
theorem dX12_lack_51 : decode cX12_lack 51 = .ok (.ireturn, 1) := by decide +kernel
theorem dX12_lack_52 : decode cX12_lack 52 = .ok (.aload_n 0, 1) := by decide +kernel
theorem dX12_lack_53 : decode cX12_lack 53 = .ok (.getfield 9, 3) := by decide +kernel
theorem dX12_lack_56 : decode cX12_lack 56 = .ok (.iload 4, 2) := by decide +kernel
theorem dX12_lack_58 : decode cX12_lack 58 = .ok (.iconst 1, 1) := by decide +kernel
theorem dX12_lack_59 : decode cX12_lack 59 = .ok (.bastore, 1) := by decide +kernel
theorem dX12_lack_60 : decode cX12_lack 60 = .ok (.aload_n 0, 1) := by decide +kernel
theorem dX12_lack_61 : decode cX12_lack 61 = .ok (.invokevirtual 274, 3) := by decide +kernel
theorem dX12_lack_64 : decode cX12_lack 64 = .ok (.aload_n 0, 1) := by decide +kernel
theorem dX12_lack_65 : decode cX12_lack 65 = .ok (.aload_n 0, 1) := by decide +kernel
theorem dX12_lack_66 : decode cX12_lack 66 = .ok (.invokevirtual 180, 3) := by decide +kernel
theorem dX12_lack_69 : decode cX12_lack 69 = .ok (.invokevirtual 268, 3) := by decide +kernel
theorem dX12_lack_72 : decode cX12_lack 72 = .ok (.ireturn, 1) := by decide +kernel
theorem dX12_seeds_0 : decode cX12_seeds 0 = .ok (.aload_n 0, 1) := by decide +kernel
theorem dX12_seeds_1 : decode cX12_seeds 1 = .ok (.iload_n 1, 1) := by decide +kernel
theorem dX12_seeds_2 : decode cX12_seeds 2 = .ok (.iload_n 2, 1) := by decide +kernel
theorem dX12_seeds_3 : decode cX12_seeds 3 = .ok (.invokevirtual 271, 3) := by decide +kernel
theorem dX12_seeds_6 : decode cX12_seeds 6 = .ok (.istore 4, 2) := by decide +kernel
theorem dX12_seeds_8 : decode cX12_seeds 8 = .ok (.iload 4, 2) := by decide +kernel
theorem dX12_seeds_10 : decode cX12_seeds 10 = .ok (.ifCond .ne 19, 3) := by decide +kernel
theorem dX12_seeds_13 : decode cX12_seeds 13 = .ok (.iload_n 3, 1) := by decide +kernel
theorem dX12_seeds_14 : decode cX12_seeds 14 = .ok (.i2l, 1) := by decide +kernel
theorem dX12_seeds_15 : decode cX12_seeds 15 = .ok (.lconst 0, 1) := by decide +kernel
theorem dX12_seeds_16 : decode cX12_seeds 16 = .ok (.ldc2_w 277, 3) := by decide +kernel
theorem dX12_seeds_19 : decode cX12_seeds 19 = .ok (.invokestatic 164, 3) := by decide +kernel
theorem dX12_seeds_22 : decode cX12_seeds 22 = .ok (.ifCond .ne 7, 3) := by decide +kernel
theorem dX12_seeds_25 : decode cX12_seeds 25 = .ok (.bipush 7, 2) := by decide +kernel
theorem dX12_seeds_27 : decode cX12_seeds 27 = .ok (.istore 4, 2) := by decide +kernel
theorem dX12_seeds_29 : decode cX12_seeds 29 = .ok (.iload 4, 2) := by decide +kernel
theorem dX12_seeds_31 : decode cX12_seeds 31 = .ok (.ifCond .le 10, 3) := by decide +kernel
theorem dX12_seeds_34 : decode cX12_seeds 34 = .ok (.aload_n 0, 1) := by decide +kernel
theorem dX12_seeds_35 : decode cX12_seeds 35 = .ok (.iload 4, 2) := by decide +kernel
theorem dX12_seeds_37 : decode cX12_seeds 37 = .ok (.invokevirtual 265, 3) := by decide +kernel
theorem dX12_seeds_40 : decode cX12_seeds 40 = .ok (.ireturn, 1) := by decide +kernel
theorem dX12_seeds_41 : decode cX12_seeds 41 = .ok (.aload_n 0, 1) := by decide +kernel
theorem dX12_seeds_42 : decode cX12_seeds 42 = .ok (.getfield 13, 3) := by decide +kernel
theorem dX12_seeds_45 : decode cX12_seeds 45 = .ok (.iload_n 1, 1) := by decide +kernel
theorem dX12_seeds_46 : decode cX12_seeds 46 = .ok (.aload_n 0, 1) := by decide +kernel
theorem dX12_seeds_47 : decode cX12_seeds 47 = .ok (.getfield 93, 3) := by decide +kernel
theorem dX12_seeds_50 : decode cX12_seeds 50 = .ok (.imul, 1) := by decide +kernel
theorem dX12_seeds_51 : decode cX12_seeds 51 = .ok (.iload_n 2, 1) := by decide +kernel
theorem dX12_seeds_52 : decode cX12_seeds 52 = .ok (.iadd, 1) := by decide +kernel
theorem dX12_seeds_53 : decode cX12_seeds 53 = .ok (.iload_n 3, 1) := by decide +kernel
theorem dX12_seeds_54 : decode cX12_seeds 54 = .ok (.iastore, 1) := by decide +kernel
theorem dX12_seeds_55 : decode cX12_seeds 55 = .ok (.aload_n 0, 1) := by decide +kernel
theorem dX12_seeds_56 : decode cX12_seeds 56 = .ok (.invokevirtual 248, 3) := by decide +kernel
theorem dX12_seeds_59 : decode cX12_seeds 59 = .ok (.aload_n 0, 1) := by decide +kernel
theorem dX12_seeds_60 : decode cX12_seeds 60 = .ok (.aload_n 0, 1) := by decide +kernel
theorem dX12_seeds_61 : decode cX12_seeds 61 = .ok (.aload_n 0, 1) := by decide +kernel
theorem dX12_seeds_62 : decode cX12_seeds 62 = .ok (.getfield 13, 3) := by decide +kernel
theorem dX12_seeds_65 : decode cX12_seeds 65 = .ok (.invokevirtual 189, 3) := by decide +kernel
theorem dX12_seeds_68 : decode cX12_seeds 68 = .ok (.invokevirtual 268, 3) := by decide +kernel
theorem dX12_seeds_71 : decode cX12_seeds 71 = .ok (.ireturn, 1) := by decide +kernel
theorem dX12_store_0 : decode cX12_store 0 = .ok (.iload_n 1, 1) := by decide +kernel
theorem dX12_store_1 : decode cX12_store 1 = .ok (.i2l, 1) := by decide +kernel
theorem dX12_store_2 : decode cX12_store 2 = .ok (.lconst 0, 1) := by decide +kernel
theorem dX12_store_3 : decode cX12_store 3 = .ok (.lconst 1, 1) := by decide +kernel
theorem dX12_store_4 : decode cX12_store 4 = .ok (.invokestatic 164, 3) := by decide +kernel
theorem dX12_store_7 : decode cX12_store 7 = .ok (.ifCond .ne 9, 3) := by decide +kernel
theorem dX12_store_10 : decode cX12_store 10 = .ok (.aload_n 0, 1) := by decide +kernel
theorem dX12_store_11 : decode cX12_store 11 = .ok (.iconst 3, 1) := by decide +kernel
theorem dX12_store_12 : decode cX12_store 12 = .ok (.invokevirtual 265, 3) := by decide +kernel
theorem dX12_store_15 : decode cX12_store 15 = .ok (.ireturn, 1) := by decide +kernel
theorem dX12_store_16 : decode cX12_store 16 = .ok (.iload_n 2, 1) := by decide +kernel
theorem dX12_store_17 : decode cX12_store 17 = .ok (.i2l, 1) := by decide +kernel
theorem dX12_store_18 : decode cX12_store 18 = .ok (.lconst 0, 1) := by decide +kernel
theorem dX12_store_19 : decode cX12_store 19 = .ok (.ldc2_w 279, 3) := by decide +kernel
theorem dX12_store_22 : decode cX12_store 22 = .ok (.invokestatic 164, 3) := by decide +kernel
theorem dX12_store_25 : decode cX12_store 25 = .ok (.ifCond .ne 10, 3) := by decide +kernel
theorem dX12_store_28 : decode cX12_store 28 = .ok (.aload_n 0, 1) := by decide +kernel
theorem dX12_store_29 : decode cX12_store 29 = .ok (.bipush 7, 2) := by decide +kernel
theorem dX12_store_31 : decode cX12_store 31 = .ok (.invokevirtual 265, 3) := by decide +kernel
theorem dX12_store_34 : decode cX12_store 34 = .ok (.ireturn, 1) := by decide +kernel
theorem dX12_store_35 : decode cX12_store 35 = .ok (.aload_n 0, 1) := by decide +kernel
theorem dX12_store_36 : decode cX12_store 36 = .ok (.getfield 17, 3) := by decide +kernel
theorem dX12_store_39 : decode cX12_store 39 = .ok (.iload_n 1, 1) := by decide +kernel
theorem dX12_store_40 : decode cX12_store 40 = .ok (.iload_n 2, 1) := by decide +kernel
theorem dX12_store_41 : decode cX12_store 41 = .ok (.iastore, 1) := by decide +kernel
theorem dX12_store_42 : decode cX12_store 42 = .ok (.aload_n 0, 1) := by decide +kernel
theorem dX12_store_43 : decode cX12_store 43 = .ok (.invokevirtual 248, 3) := by decide +kernel
theorem dX12_store_46 : decode cX12_store 46 = .ok (.aload_n 0, 1) := by decide +kernel
theorem dX12_store_47 : decode cX12_store 47 = .ok (.iload_n 2, 1) := by decide +kernel
theorem dX12_store_48 : decode cX12_store 48 = .ok (.invokevirtual 268, 3) := by decide +kernel
theorem dX12_store_51 : decode cX12_store 51 = .ok (.ireturn, 1) := by decide +kernel
theorem dX12_side_0 : decode cX12_side 0 = .ok (.iload_n 1, 1) := by decide +kernel
theorem dX12_side_1 : decode cX12_side 1 = .ok (.i2l, 1) := by decide +kernel
theorem dX12_side_2 : decode cX12_side 2 = .ok (.lconst 0, 1) := by decide +kernel
theorem dX12_side_3 : decode cX12_side 3 = .ok (.lconst 1, 1) := by decide +kernel
theorem dX12_side_4 : decode cX12_side 4 = .ok (.invokestatic 164, 3) := by decide +kernel
theorem dX12_side_7 : decode cX12_side 7 = .ok (.ifCond .ne 9, 3) := by decide +kernel
theorem dX12_side_10 : decode cX12_side 10 = .ok (.aload_n 0, 1) := by decide +kernel
theorem dX12_side_11 : decode cX12_side 11 = .ok (.iconst 3, 1) := by decide +kernel
theorem dX12_side_12 : decode cX12_side 12 = .ok (.invokevirtual 265, 3) := by decide +kernel
theorem dX12_side_15 : decode cX12_side 15 = .ok (.ireturn, 1) := by decide +kernel
theorem dX12_side_16 : decode cX12_side 16 = .ok (.aload_n 0, 1) := by decide +kernel
theorem dX12_side_17 : decode cX12_side 17 = .ok (.iload_n 1, 1) := by decide +kernel
theorem dX12_side_18 : decode cX12_side 18 = .ok (.putfield 96, 3) := by decide +kernel
theorem dX12_side_21 : decode cX12_side 21 = .ok (.aload_n 0, 1) := by decide +kernel
theorem dX12_side_22 : decode cX12_side 22 = .ok (.invokevirtual 248, 3) := by decide +kernel
theorem dX12_side_25 : decode cX12_side 25 = .ok (.aload_n 0, 1) := by decide +kernel
theorem dX12_side_26 : decode cX12_side 26 = .ok (.iload_n 1, 1) := by decide +kernel
theorem dX12_side_27 : decode cX12_side 27 = .ok (.invokevirtual 268, 3) := by decide +kernel
theorem dX12_side_30 : decode cX12_side 30 = .ok (.ireturn, 1) := by decide +kernel
theorem dX12_rule_0 : decode cX12_rule 0 = .ok (.iload_n 1, 1) := by decide +kernel
theorem dX12_rule_1 : decode cX12_rule 1 = .ok (.i2l, 1) := by decide +kernel
theorem dX12_rule_2 : decode cX12_rule 2 = .ok (.lconst 0, 1) := by decide +kernel
theorem dX12_rule_3 : decode cX12_rule 3 = .ok (.ldc2_w 281, 3) := by decide +kernel
theorem dX12_rule_6 : decode cX12_rule 6 = .ok (.invokestatic 164, 3) := by decide +kernel
theorem dX12_rule_9 : decode cX12_rule 9 = .ok (.ifCond .ne 10, 3) := by decide +kernel
theorem dX12_rule_12 : decode cX12_rule 12 = .ok (.aload_n 0, 1) := by decide +kernel
theorem dX12_rule_13 : decode cX12_rule 13 = .ok (.bipush 7, 2) := by decide +kernel
theorem dX12_rule_15 : decode cX12_rule 15 = .ok (.invokevirtual 265, 3) := by decide +kernel
theorem dX12_rule_18 : decode cX12_rule 18 = .ok (.ireturn, 1) := by decide +kernel
theorem dX12_rule_19 : decode cX12_rule 19 = .ok (.aload_n 0, 1) := by decide +kernel
theorem dX12_rule_20 : decode cX12_rule 20 = .ok (.iload_n 1, 1) := by decide +kernel
theorem dX12_rule_21 : decode cX12_rule 21 = .ok (.putfield 99, 3) := by decide +kernel
theorem dX12_rule_24 : decode cX12_rule 24 = .ok (.aload_n 0, 1) := by decide +kernel
theorem dX12_rule_25 : decode cX12_rule 25 = .ok (.bipush 10, 2) := by decide +kernel
theorem dX12_rule_27 : decode cX12_rule 27 = .ok (.putfield 102, 3) := by decide +kernel
theorem dX12_rule_30 : decode cX12_rule 30 = .ok (.aload_n 0, 1) := by decide +kernel
theorem dX12_rule_31 : decode cX12_rule 31 = .ok (.iconst 2, 1) := by decide +kernel
theorem dX12_rule_32 : decode cX12_rule 32 = .ok (.putfield 105, 3) := by decide +kernel
theorem dX12_rule_35 : decode cX12_rule 35 = .ok (.aload_n 0, 1) := by decide +kernel
theorem dX12_rule_36 : decode cX12_rule 36 = .ok (.iconst 3, 1) := by decide +kernel
theorem dX12_rule_37 : decode cX12_rule 37 = .ok (.putfield 108, 3) := by decide +kernel
theorem dX12_rule_40 : decode cX12_rule 40 = .ok (.aload_n 0, 1) := by decide +kernel
theorem dX12_rule_41 : decode cX12_rule 41 = .ok (.invokevirtual 274, 3) := by decide +kernel
theorem dX12_rule_44 : decode cX12_rule 44 = .ok (.aload_n 0, 1) := by decide +kernel
theorem dX12_rule_45 : decode cX12_rule 45 = .ok (.aload_n 0, 1) := by decide +kernel
theorem dX12_rule_46 : decode cX12_rule 46 = .ok (.getfield 99, 3) := by decide +kernel
theorem dX12_rule_49 : decode cX12_rule 49 = .ok (.invokevirtual 268, 3) := by decide +kernel
theorem dX12_rule_52 : decode cX12_rule 52 = .ok (.ireturn, 1) := by decide +kernel
theorem dX12_rounds_0 : decode cX12_rounds 0 = .ok (.iload_n 1, 1) := by decide +kernel
theorem dX12_rounds_1 : decode cX12_rounds 1 = .ok (.i2l, 1) := by decide +kernel
theorem dX12_rounds_2 : decode cX12_rounds 2 = .ok (.lconst 1, 1) := by decide +kernel
theorem dX12_rounds_3 : decode cX12_rounds 3 = .ok (.ldc2_w 283, 3) := by decide +kernel
theorem dX12_rounds_6 : decode cX12_rounds 6 = .ok (.invokestatic 164, 3) := by decide +kernel
theorem dX12_rounds_9 : decode cX12_rounds 9 = .ok (.ifCond .ne 10, 3) := by decide +kernel
theorem dX12_rounds_12 : decode cX12_rounds 12 = .ok (.aload_n 0, 1) := by decide +kernel
theorem dX12_rounds_13 : decode cX12_rounds 13 = .ok (.bipush 7, 2) := by decide +kernel
theorem dX12_rounds_15 : decode cX12_rounds 15 = .ok (.invokevirtual 265, 3) := by decide +kernel
theorem dX12_rounds_18 : decode cX12_rounds 18 = .ok (.ireturn, 1) := by decide +kernel
theorem dX12_rounds_19 : decode cX12_rounds 19 = .ok (.aload_n 0, 1) := by decide +kernel
theorem dX12_rounds_20 : decode cX12_rounds 20 = .ok (.getfield 99, 3) := by decide +kernel
theorem dX12_rounds_23 : decode cX12_rounds 23 = .ok (.iconst 1, 1) := by decide +kernel
theorem dX12_rounds_24 : decode cX12_rounds 24 = .ok (.if_icmp .eq 9, 3) := by decide +kernel
theorem dX12_rounds_27 : decode cX12_rounds 27 = .ok (.aload_n 0, 1) := by decide +kernel
theorem dX12_rounds_28 : decode cX12_rounds 28 = .ok (.iconst 4, 1) := by decide +kernel
theorem dX12_rounds_29 : decode cX12_rounds 29 = .ok (.invokevirtual 265, 3) := by decide +kernel
theorem dX12_rounds_32 : decode cX12_rounds 32 = .ok (.ireturn, 1) := by decide +kernel
theorem dX12_rounds_33 : decode cX12_rounds 33 = .ok (.aload_n 0, 1) := by decide +kernel
theorem dX12_rounds_34 : decode cX12_rounds 34 = .ok (.iload_n 1, 1) := by decide +kernel
theorem dX12_rounds_35 : decode cX12_rounds 35 = .ok (.putfield 102, 3) := by decide +kernel
theorem dX12_rounds_38 : decode cX12_rounds 38 = .ok (.aload_n 0, 1) := by decide +kernel
theorem dX12_rounds_39 : decode cX12_rounds 39 = .ok (.invokevirtual 274, 3) := by decide +kernel
theorem dX12_rounds_42 : decode cX12_rounds 42 = .ok (.aload_n 0, 1) := by decide +kernel
theorem dX12_rounds_43 : decode cX12_rounds 43 = .ok (.iload_n 1, 1) := by decide +kernel
theorem dX12_rounds_44 : decode cX12_rounds 44 = .ok (.invokevirtual 268, 3) := by decide +kernel
theorem dX12_rounds_47 : decode cX12_rounds 47 = .ok (.ireturn, 1) := by decide +kernel
theorem dX12_takes_0 : decode cX12_takes 0 = .ok (.iload_n 2, 1) := by decide +kernel
theorem dX12_takes_1 : decode cX12_takes 1 = .ok (.i2l, 1) := by decide +kernel
theorem dX12_takes_2 : decode cX12_takes 2 = .ok (.lconst 1, 1) := by decide +kernel
theorem dX12_takes_3 : decode cX12_takes 3 = .ok (.ldc2_w 285, 3) := by decide +kernel
theorem dX12_takes_6 : decode cX12_takes 6 = .ok (.invokestatic 164, 3) := by decide +kernel
theorem dX12_takes_9 : decode cX12_takes 9 = .ok (.ifCond .eq 14, 3) := by decide +kernel
theorem dX12_takes_12 : decode cX12_takes 12 = .ok (.iload_n 1, 1) := by decide +kernel
theorem dX12_takes_13 : decode cX12_takes 13 = .ok (.i2l, 1) := by decide +kernel
theorem dX12_takes_14 : decode cX12_takes 14 = .ok (.lconst 1, 1) := by decide +kernel
theorem dX12_takes_15 : decode cX12_takes 15 = .ok (.iload_n 2, 1) := by decide +kernel
theorem dX12_takes_16 : decode cX12_takes 16 = .ok (.i2l, 1) := by decide +kernel
theorem dX12_takes_17 : decode cX12_takes 17 = .ok (.invokestatic 164, 3) := by decide +kernel
theorem dX12_takes_20 : decode cX12_takes 20 = .ok (.ifCond .ne 10, 3) := by decide +kernel
theorem dX12_takes_23 : decode cX12_takes 23 = .ok (.aload_n 0, 1) := by decide +kernel
theorem dX12_takes_24 : decode cX12_takes 24 = .ok (.bipush 7, 2) := by decide +kernel
theorem dX12_takes_26 : decode cX12_takes 26 = .ok (.invokevirtual 265, 3) := by decide +kernel
theorem dX12_takes_29 : decode cX12_takes 29 = .ok (.ireturn, 1) := by decide +kernel
theorem dX12_takes_30 : decode cX12_takes 30 = .ok (.aload_n 0, 1) := by decide +kernel
theorem dX12_takes_31 : decode cX12_takes 31 = .ok (.getfield 99, 3) := by decide +kernel
theorem dX12_takes_34 : decode cX12_takes 34 = .ok (.iconst 2, 1) := by decide +kernel
theorem dX12_takes_35 : decode cX12_takes 35 = .ok (.if_icmp .eq 9, 3) := by decide +kernel
theorem dX12_takes_38 : decode cX12_takes 38 = .ok (.aload_n 0, 1) := by decide +kernel
theorem dX12_takes_39 : decode cX12_takes 39 = .ok (.iconst 4, 1) := by decide +kernel
theorem dX12_takes_40 : decode cX12_takes 40 = .ok (.invokevirtual 265, 3) := by decide +kernel
theorem dX12_takes_43 : decode cX12_takes 43 = .ok (.ireturn, 1) := by decide +kernel
theorem dX12_takes_44 : decode cX12_takes 44 = .ok (.aload_n 0, 1) := by decide +kernel
theorem dX12_takes_45 : decode cX12_takes 45 = .ok (.iload_n 1, 1) := by decide +kernel
theorem dX12_takes_46 : decode cX12_takes 46 = .ok (.putfield 105, 3) := by decide +kernel
theorem dX12_takes_49 : decode cX12_takes 49 = .ok (.aload_n 0, 1) := by decide +kernel
theorem dX12_takes_50 : decode cX12_takes 50 = .ok (.iload_n 2, 1) := by decide +kernel
theorem dX12_takes_51 : decode cX12_takes 51 = .ok (.putfield 108, 3) := by decide +kernel
theorem dX12_takes_54 : decode cX12_takes 54 = .ok (.aload_n 0, 1) := by decide +kernel
theorem dX12_takes_55 : decode cX12_takes 55 = .ok (.invokevirtual 274, 3) := by decide +kernel
theorem dX12_takes_58 : decode cX12_takes 58 = .ok (.aload_n 0, 1) := by decide +kernel
theorem dX12_takes_59 : decode cX12_takes 59 = .ok (.aload_n 0, 1) := by decide +kernel
theorem dX12_takes_60 : decode cX12_takes 60 = .ok (.getfield 108, 3) := by decide +kernel
theorem dX12_takes_63 : decode cX12_takes 63 = .ok (.invokevirtual 268, 3) := by decide +kernel
theorem dX12_takes_66 : decode cX12_takes 66 = .ok (.ireturn, 1) := by decide +kernel
theorem dX12_least_0 : decode cX12_least 0 = .ok (.iload_n 1, 1) := by decide +kernel
theorem dX12_least_1 : decode cX12_least 1 = .ok (.i2l, 1) := by decide +kernel
theorem dX12_least_2 : decode cX12_least 2 = .ok (.lconst 1, 1) := by decide +kernel
theorem dX12_least_3 : decode cX12_least 3 = .ok (.ldc2_w 287, 3) := by decide +kernel
theorem dX12_least_6 : decode cX12_least 6 = .ok (.invokestatic 164, 3) := by decide +kernel
theorem dX12_least_9 : decode cX12_least 9 = .ok (.ifCond .ne 10, 3) := by decide +kernel
theorem dX12_least_12 : decode cX12_least 12 = .ok (.aload_n 0, 1) := by decide +kernel
theorem dX12_least_13 : decode cX12_least 13 = .ok (.bipush 7, 2) := by decide +kernel
theorem dX12_least_15 : decode cX12_least 15 = .ok (.invokevirtual 265, 3) := by decide +kernel
theorem dX12_least_18 : decode cX12_least 18 = .ok (.ireturn, 1) := by decide +kernel
theorem dX12_least_19 : decode cX12_least 19 = .ok (.aload_n 0, 1) := by decide +kernel
theorem dX12_least_20 : decode cX12_least 20 = .ok (.iload_n 1, 1) := by decide +kernel
theorem dX12_least_21 : decode cX12_least 21 = .ok (.putfield 111, 3) := by decide +kernel
theorem dX12_least_24 : decode cX12_least 24 = .ok (.aload_n 0, 1) := by decide +kernel
theorem dX12_least_25 : decode cX12_least 25 = .ok (.invokevirtual 274, 3) := by decide +kernel
theorem dX12_least_28 : decode cX12_least 28 = .ok (.aload_n 0, 1) := by decide +kernel
theorem dX12_least_29 : decode cX12_least 29 = .ok (.iload_n 1, 1) := by decide +kernel
theorem dX12_least_30 : decode cX12_least 30 = .ok (.invokevirtual 268, 3) := by decide +kernel
theorem dX12_least_33 : decode cX12_least 33 = .ok (.ireturn, 1) := by decide +kernel
theorem dX12_feeding_0 : decode cX12_feeding 0 = .ok (.iload_n 1, 1) := by decide +kernel
theorem dX12_feeding_1 : decode cX12_feeding 1 = .ok (.i2l, 1) := by decide +kernel
theorem dX12_feeding_2 : decode cX12_feeding 2 = .ok (.lconst 0, 1) := by decide +kernel
theorem dX12_feeding_3 : decode cX12_feeding 3 = .ok (.lconst 1, 1) := by decide +kernel
theorem dX12_feeding_4 : decode cX12_feeding 4 = .ok (.invokestatic 164, 3) := by decide +kernel
theorem dX12_feeding_7 : decode cX12_feeding 7 = .ok (.ifCond .ne 10, 3) := by decide +kernel
theorem dX12_feeding_10 : decode cX12_feeding 10 = .ok (.aload_n 0, 1) := by decide +kernel
theorem dX12_feeding_11 : decode cX12_feeding 11 = .ok (.bipush 7, 2) := by decide +kernel
theorem dX12_feeding_13 : decode cX12_feeding 13 = .ok (.invokevirtual 265, 3) := by decide +kernel
theorem dX12_feeding_16 : decode cX12_feeding 16 = .ok (.ireturn, 1) := by decide +kernel
theorem dX12_feeding_17 : decode cX12_feeding 17 = .ok (.aload_n 0, 1) := by decide +kernel
theorem dX12_feeding_18 : decode cX12_feeding 18 = .ok (.iload_n 1, 1) := by decide +kernel
theorem dX12_feeding_19 : decode cX12_feeding 19 = .ok (.iconst 1, 1) := by decide +kernel
theorem dX12_feeding_20 : decode cX12_feeding 20 = .ok (.if_icmp .ne 7, 3) := by decide +kernel
theorem dX12_feeding_23 : decode cX12_feeding 23 = .ok (.iconst 1, 1) := by decide +kernel
theorem dX12_feeding_24 : decode cX12_feeding 24 = .ok (.goto 4, 3) := by decide +kernel
theorem dX12_feeding_27 : decode cX12_feeding 27 = .ok (.iconst 0, 1) := by decide +kernel
theorem dX12_feeding_28 : decode cX12_feeding 28 = .ok (.putfield 114, 3) := by decide +kernel
theorem dX12_feeding_31 : decode cX12_feeding 31 = .ok (.aload_n 0, 1) := by decide +kernel
theorem dX12_feeding_32 : decode cX12_feeding 32 = .ok (.invokevirtual 274, 3) := by decide +kernel
theorem dX12_feeding_35 : decode cX12_feeding 35 = .ok (.aload_n 0, 1) := by decide +kernel
theorem dX12_feeding_36 : decode cX12_feeding 36 = .ok (.iload_n 1, 1) := by decide +kernel
theorem dX12_feeding_37 : decode cX12_feeding 37 = .ok (.invokevirtual 268, 3) := by decide +kernel
theorem dX12_feeding_40 : decode cX12_feeding 40 = .ok (.ireturn, 1) := by decide +kernel
theorem dX12_ends_0 : decode cX12_ends 0 = .ok (.iload_n 1, 1) := by decide +kernel
theorem dX12_ends_1 : decode cX12_ends 1 = .ok (.i2l, 1) := by decide +kernel
theorem dX12_ends_2 : decode cX12_ends 2 = .ok (.lconst 0, 1) := by decide +kernel
theorem dX12_ends_3 : decode cX12_ends 3 = .ok (.ldc2_w 187, 3) := by decide +kernel
theorem dX12_ends_6 : decode cX12_ends 6 = .ok (.invokestatic 164, 3) := by decide +kernel
theorem dX12_ends_9 : decode cX12_ends 9 = .ok (.ifCond .ne 10, 3) := by decide +kernel
theorem dX12_ends_12 : decode cX12_ends 12 = .ok (.aload_n 0, 1) := by decide +kernel
theorem dX12_ends_13 : decode cX12_ends 13 = .ok (.bipush 7, 2) := by decide +kernel
theorem dX12_ends_15 : decode cX12_ends 15 = .ok (.invokevirtual 265, 3) := by decide +kernel
theorem dX12_ends_18 : decode cX12_ends 18 = .ok (.ireturn, 1) := by decide +kernel
theorem dX12_ends_19 : decode cX12_ends 19 = .ok (.aload_n 0, 1) := by decide +kernel
theorem dX12_ends_20 : decode cX12_ends 20 = .ok (.iload_n 1, 1) := by decide +kernel
theorem dX12_ends_21 : decode cX12_ends 21 = .ok (.putfield 118, 3) := by decide +kernel
theorem dX12_ends_24 : decode cX12_ends 24 = .ok (.aload_n 0, 1) := by decide +kernel
theorem dX12_ends_25 : decode cX12_ends 25 = .ok (.invokevirtual 274, 3) := by decide +kernel
theorem dX12_ends_28 : decode cX12_ends 28 = .ok (.aload_n 0, 1) := by decide +kernel
theorem dX12_ends_29 : decode cX12_ends 29 = .ok (.iload_n 1, 1) := by decide +kernel
theorem dX12_ends_30 : decode cX12_ends 30 = .ok (.invokevirtual 268, 3) := by decide +kernel
theorem dX12_ends_33 : decode cX12_ends 33 = .ok (.ireturn, 1) := by decide +kernel
theorem dX12_move_0 : decode cX12_move 0 = .ok (.aload_n 0, 1) := by decide +kernel
theorem dX12_move_1 : decode cX12_move 1 = .ok (.iload_n 1, 1) := by decide +kernel
theorem dX12_move_2 : decode cX12_move 2 = .ok (.iload_n 2, 1) := by decide +kernel
theorem dX12_move_3 : decode cX12_move 3 = .ok (.invokevirtual 271, 3) := by decide +kernel
theorem dX12_move_6 : decode cX12_move 6 = .ok (.istore_n 3, 1) := by decide +kernel
theorem dX12_move_7 : decode cX12_move 7 = .ok (.iload_n 3, 1) := by decide +kernel
theorem dX12_move_8 : decode cX12_move 8 = .ok (.ifCond .ne 16, 3) := by decide +kernel
theorem dX12_move_11 : decode cX12_move 11 = .ok (.aload_n 0, 1) := by decide +kernel
theorem dX12_move_12 : decode cX12_move 12 = .ok (.getfield 121, 3) := by decide +kernel
theorem dX12_move_15 : decode cX12_move 15 = .ok (.sipush 1000, 3) := by decide +kernel
theorem dX12_move_18 : decode cX12_move 18 = .ok (.if_icmp .ne 6, 3) := by decide +kernel
theorem dX12_move_21 : decode cX12_move 21 = .ok (.bipush 10, 2) := by decide +kernel
theorem dX12_move_23 : decode cX12_move 23 = .ok (.istore_n 3, 1) := by decide +kernel
theorem dX12_move_24 : decode cX12_move 24 = .ok (.iload_n 1, 1) := by decide +kernel
theorem dX12_move_25 : decode cX12_move 25 = .ok (.aload_n 0, 1) := by decide +kernel
theorem dX12_move_26 : decode cX12_move 26 = .ok (.getfield 93, 3) := by decide +kernel
theorem dX12_move_29 : decode cX12_move 29 = .ok (.imul, 1) := by decide +kernel
theorem dX12_move_30 : decode cX12_move 30 = .ok (.iload_n 2, 1) := by decide +kernel
theorem dX12_move_31 : decode cX12_move 31 = .ok (.iadd, 1) := by decide +kernel
theorem dX12_move_32 : decode cX12_move 32 = .ok (.istore 4, 2) := by decide +kernel
theorem dX12_move_34 : decode cX12_move 34 = .ok (.iload_n 3, 1) := by decide +kernel
theorem dX12_move_35 : decode cX12_move 35 = .ok (.ifCond .ne 48, 3) := by decide +kernel
theorem dX12_move_38 : decode cX12_move 38 = .ok (.aload_n 0, 1) := by decide +kernel
theorem dX12_move_39 : decode cX12_move 39 = .ok (.aload_n 0, 1) := by decide +kernel
theorem dX12_move_40 : decode cX12_move 40 = .ok (.getfield 13, 3) := by decide +kernel
theorem dX12_move_43 : decode cX12_move 43 = .ok (.aload_n 0, 1) := by decide +kernel
theorem dX12_move_44 : decode cX12_move 44 = .ok (.getfield 96, 3) := by decide +kernel
theorem dX12_move_47 : decode cX12_move 47 = .ok (.iload 4, 2) := by decide +kernel
theorem dX12_move_49 : decode cX12_move 49 = .ok (.invokevirtual 168, 3) := by decide +kernel
theorem dX12_move_52 : decode cX12_move 52 = .ok (.ifCond .eq 31, 3) := by decide +kernel
theorem dX12_move_55 : decode cX12_move 55 = .ok (.aload_n 0, 1) := by decide +kernel
theorem dX12_move_56 : decode cX12_move 56 = .ok (.aload_n 0, 1) := by decide +kernel
theorem dX12_move_57 : decode cX12_move 57 = .ok (.getfield 13, 3) := by decide +kernel
theorem dX12_move_60 : decode cX12_move 60 = .ok (.aload_n 0, 1) := by decide +kernel
theorem dX12_move_61 : decode cX12_move 61 = .ok (.getfield 96, 3) := by decide +kernel
theorem dX12_move_64 : decode cX12_move 64 = .ok (.iload 4, 2) := by decide +kernel
theorem dX12_move_66 : decode cX12_move 66 = .ok (.invokevirtual 172, 3) := by decide +kernel
theorem dX12_move_69 : decode cX12_move 69 = .ok (.aload_n 0, 1) := by decide +kernel
theorem dX12_move_70 : decode cX12_move 70 = .ok (.getfield 155, 3) := by decide +kernel
theorem dX12_move_73 : decode cX12_move 73 = .ok (.ifCond .eq 8, 3) := by decide +kernel
theorem dX12_move_76 : decode cX12_move 76 = .ok (.bipush 6, 2) := by decide +kernel
theorem dX12_move_78 : decode cX12_move 78 = .ok (.goto 4, 3) := by decide +kernel
theorem dX12_move_81 : decode cX12_move 81 = .ok (.iconst 0, 1) := by decide +kernel
theorem dX12_move_82 : decode cX12_move 82 = .ok (.istore_n 3, 1) := by decide +kernel
theorem dX12_move_83 : decode cX12_move 83 = .ok (.iload_n 3, 1) := by decide +kernel
theorem dX12_move_84 : decode cX12_move 84 = .ok (.ifCond .ne 36, 3) := by decide +kernel
theorem dX12_move_87 : decode cX12_move 87 = .ok (.aload_n 0, 1) := by decide +kernel
theorem dX12_move_88 : decode cX12_move 88 = .ok (.aload_n 0, 1) := by decide +kernel
theorem dX12_move_89 : decode cX12_move 89 = .ok (.getfield 13, 3) := by decide +kernel
theorem dX12_move_92 : decode cX12_move 92 = .ok (.aload_n 0, 1) := by decide +kernel
theorem dX12_move_93 : decode cX12_move 93 = .ok (.getfield 96, 3) := by decide +kernel
theorem dX12_move_96 : decode cX12_move 96 = .ok (.aload_n 0, 1) := by decide +kernel
theorem dX12_move_97 : decode cX12_move 97 = .ok (.getfield 65, 3) := by decide +kernel
theorem dX12_move_100 : decode cX12_move 100 = .ok (.invokevirtual 201, 3) := by decide +kernel
theorem dX12_move_103 : decode cX12_move 103 = .ok (.pop, 1) := by decide +kernel
theorem dX12_move_104 : decode cX12_move 104 = .ok (.aload_n 0, 1) := by decide +kernel
theorem dX12_move_105 : decode cX12_move 105 = .ok (.getfield 65, 3) := by decide +kernel
theorem dX12_move_108 : decode cX12_move 108 = .ok (.iload 4, 2) := by decide +kernel
theorem dX12_move_110 : decode cX12_move 110 = .ok (.baload, 1) := by decide +kernel
theorem dX12_move_111 : decode cX12_move 111 = .ok (.ifCond .eq 7, 3) := by decide +kernel
theorem dX12_move_114 : decode cX12_move 114 = .ok (.iconst 0, 1) := by decide +kernel
theorem dX12_move_115 : decode cX12_move 115 = .ok (.goto 4, 3) := by decide +kernel
theorem dX12_move_118 : decode cX12_move 118 = .ok (.iconst 5, 1) := by decide +kernel
theorem dX12_move_119 : decode cX12_move 119 = .ok (.istore_n 3, 1) := by decide +kernel
theorem dX12_move_120 : decode cX12_move 120 = .ok (.iload_n 3, 1) := by decide +kernel
theorem dX12_move_121 : decode cX12_move 121 = .ok (.ifCond .le 11, 3) := by decide +kernel
theorem dX12_move_124 : decode cX12_move 124 = .ok (.aload_n 0, 1) := by decide +kernel
theorem dX12_move_125 : decode cX12_move 125 = .ok (.iload_n 3, 1) := by decide +kernel
theorem dX12_move_126 : decode cX12_move 126 = .ok (.invokevirtual 265, 3) := by decide +kernel
theorem dX12_move_129 : decode cX12_move 129 = .ok (.goto 13, 3) := by decide +kernel
theorem dX12_move_132 : decode cX12_move 132 = .ok (.aload_n 0, 1) := by decide +kernel
theorem dX12_move_133 : decode cX12_move 133 = .ok (.aload_n 0, 1) := by decide +kernel
theorem dX12_move_134 : decode cX12_move 134 = .ok (.iload 4, 2) := by decide +kernel
theorem dX12_move_136 : decode cX12_move 136 = .ok (.invokevirtual 289, 3) := by decide +kernel
theorem dX12_move_139 : decode cX12_move 139 = .ok (.invokevirtual 268, 3) := by decide +kernel
theorem dX12_move_142 : decode cX12_move 142 = .ok (.ireturn, 1) := by decide +kernel
theorem dX12_undo_0 : decode cX12_undo 0 = .ok (.aload_n 0, 1) := by decide +kernel
theorem dX12_undo_1 : decode cX12_undo 1 = .ok (.getfield 121, 3) := by decide +kernel
theorem dX12_undo_4 : decode cX12_undo 4 = .ok (.ifCond .ne 10, 3) := by decide +kernel
theorem dX12_undo_7 : decode cX12_undo 7 = .ok (.aload_n 0, 1) := by decide +kernel
theorem dX12_undo_8 : decode cX12_undo 8 = .ok (.bipush 8, 2) := by decide +kernel
theorem dX12_undo_10 : decode cX12_undo 10 = .ok (.invokevirtual 265, 3) := by decide +kernel
theorem dX12_undo_13 : decode cX12_undo 13 = .ok (.ireturn, 1) := by decide +kernel
theorem dX12_undo_14 : decode cX12_undo 14 = .ok (.aload_n 0, 1) := by decide +kernel
theorem dX12_undo_15 : decode cX12_undo 15 = .ok (.dup, 1) := by decide +kernel
theorem dX12_undo_16 : decode cX12_undo 16 = .ok (.getfield 121, 3) := by decide +kernel
theorem dX12_undo_19 : decode cX12_undo 19 = .ok (.iconst 1, 1) := by decide +kernel
theorem dX12_undo_20 : decode cX12_undo 20 = .ok (.isub, 1) := by decide +kernel
theorem dX12_undo_21 : decode cX12_undo 21 = .ok (.putfield 121, 3) := by decide +kernel
theorem dX12_undo_24 : decode cX12_undo 24 = .ok (.aload_n 0, 1) := by decide +kernel
theorem dX12_undo_25 : decode cX12_undo 25 = .ok (.dup, 1) := by decide +kernel
theorem dX12_undo_26 : decode cX12_undo 26 = .ok (.getfield 124, 3) := by decide +kernel
theorem dX12_undo_29 : decode cX12_undo 29 = .ok (.iconst 1, 1) := by decide +kernel
theorem dX12_undo_30 : decode cX12_undo 30 = .ok (.iadd, 1) := by decide +kernel
theorem dX12_undo_31 : decode cX12_undo 31 = .ok (.putfield 124, 3) := by decide +kernel
theorem dX12_undo_34 : decode cX12_undo 34 = .ok (.aload_n 0, 1) := by decide +kernel
theorem dX12_undo_35 : decode cX12_undo 35 = .ok (.aload_n 0, 1) := by decide +kernel
theorem dX12_undo_36 : decode cX12_undo 36 = .ok (.getfield 121, 3) := by decide +kernel
theorem dX12_undo_39 : decode cX12_undo 39 = .ok (.invokevirtual 292, 3) := by decide +kernel
theorem dX12_undo_42 : decode cX12_undo 42 = .ok (.aload_n 0, 1) := by decide +kernel
theorem dX12_undo_43 : decode cX12_undo 43 = .ok (.aload_n 0, 1) := by decide +kernel
theorem dX12_undo_44 : decode cX12_undo 44 = .ok (.getfield 121, 3) := by decide +kernel
theorem dX12_undo_47 : decode cX12_undo 47 = .ok (.invokevirtual 268, 3) := by decide +kernel
theorem dX12_undo_50 : decode cX12_undo 50 = .ok (.ireturn, 1) := by decide +kernel
theorem dX12_redo_0 : decode cX12_redo 0 = .ok (.aload_n 0, 1) := by decide +kernel
theorem dX12_redo_1 : decode cX12_redo 1 = .ok (.getfield 124, 3) := by decide +kernel
theorem dX12_redo_4 : decode cX12_redo 4 = .ok (.ifCond .ne 10, 3) := by decide +kernel
theorem dX12_redo_7 : decode cX12_redo 7 = .ok (.aload_n 0, 1) := by decide +kernel
theorem dX12_redo_8 : decode cX12_redo 8 = .ok (.bipush 8, 2) := by decide +kernel
theorem dX12_redo_10 : decode cX12_redo 10 = .ok (.invokevirtual 265, 3) := by decide +kernel
theorem dX12_redo_13 : decode cX12_redo 13 = .ok (.ireturn, 1) := by decide +kernel
theorem dX12_redo_14 : decode cX12_redo 14 = .ok (.aload_n 0, 1) := by decide +kernel
theorem dX12_redo_15 : decode cX12_redo 15 = .ok (.dup, 1) := by decide +kernel
theorem dX12_redo_16 : decode cX12_redo 16 = .ok (.getfield 121, 3) := by decide +kernel
theorem dX12_redo_19 : decode cX12_redo 19 = .ok (.iconst 1, 1) := by decide +kernel
theorem dX12_redo_20 : decode cX12_redo 20 = .ok (.iadd, 1) := by decide +kernel
theorem dX12_redo_21 : decode cX12_redo 21 = .ok (.putfield 121, 3) := by decide +kernel
theorem dX12_redo_24 : decode cX12_redo 24 = .ok (.aload_n 0, 1) := by decide +kernel
theorem dX12_redo_25 : decode cX12_redo 25 = .ok (.dup, 1) := by decide +kernel
theorem dX12_redo_26 : decode cX12_redo 26 = .ok (.getfield 124, 3) := by decide +kernel
theorem dX12_redo_29 : decode cX12_redo 29 = .ok (.iconst 1, 1) := by decide +kernel
theorem dX12_redo_30 : decode cX12_redo 30 = .ok (.isub, 1) := by decide +kernel
theorem dX12_redo_31 : decode cX12_redo 31 = .ok (.putfield 124, 3) := by decide +kernel
theorem dX12_redo_34 : decode cX12_redo 34 = .ok (.aload_n 0, 1) := by decide +kernel
theorem dX12_redo_35 : decode cX12_redo 35 = .ok (.aload_n 0, 1) := by decide +kernel
theorem dX12_redo_36 : decode cX12_redo 36 = .ok (.getfield 121, 3) := by decide +kernel
theorem dX12_redo_39 : decode cX12_redo 39 = .ok (.invokevirtual 292, 3) := by decide +kernel
theorem dX12_redo_42 : decode cX12_redo 42 = .ok (.aload_n 0, 1) := by decide +kernel
theorem dX12_redo_43 : decode cX12_redo 43 = .ok (.aload_n 0, 1) := by decide +kernel
theorem dX12_redo_44 : decode cX12_redo 44 = .ok (.getfield 121, 3) := by decide +kernel
theorem dX12_redo_47 : decode cX12_redo 47 = .ok (.invokevirtual 268, 3) := by decide +kernel
theorem dX12_redo_50 : decode cX12_redo 50 = .ok (.ireturn, 1) := by decide +kernel
