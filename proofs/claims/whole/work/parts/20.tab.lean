theorem oi_X0_3 : am_oiok RX0 3 311 90 91 = true := by decide +kernel
theorem na_newi : am_pl 166 (Cond.arrayClass .int) = true := by decide +kernel
theorem ff_0_0 : am_fin 0 0 = false := by decide +kernel
theorem fo_X0_9 : am_fok RX0 9 0 0 2 312 = true := by decide +kernel
theorem ft_0_0 : parseFieldDescriptor (am_fd 0 0) = some (am_tyf TX0 0) := by decide +kernel
theorem ff_0_1 : am_fin 0 1 = false := by decide +kernel
theorem fo_X0_15 : am_fok RX0 15 0 1 2 315 = true := by decide +kernel
theorem ft_0_1 : parseFieldDescriptor (am_fd 0 1) = some (am_tyf TX0 1) := by decide +kernel
theorem ff_0_2 : am_fin 0 2 = false := by decide +kernel
theorem fo_X0_18 : am_fok RX0 18 0 2 2 318 = true := by decide +kernel
theorem ft_0_2 : parseFieldDescriptor (am_fd 0 2) = some (am_tyf TX0 2) := by decide +kernel
theorem ff_0_4 : am_fin 0 4 = true := by decide +kernel
theorem fo_X0_21 : am_fok RX0 21 0 4 2 322 = true := by decide +kernel
theorem ft_0_4 : parseFieldDescriptor (am_fd 0 4) = some (am_tyf TX0 4) := by decide +kernel
theorem ff_0_5 : am_fin 0 5 = true := by decide +kernel
theorem fo_X0_24 : am_fok RX0 24 0 5 2 323 = true := by decide +kernel
theorem ft_0_5 : parseFieldDescriptor (am_fd 0 5) = some (am_tyf TX0 5) := by decide +kernel
theorem ff_0_6 : am_fin 0 6 = true := by decide +kernel
theorem fo_X0_28 : am_fok RX0 28 0 6 2 324 = true := by decide +kernel
theorem ft_0_6 : parseFieldDescriptor (am_fd 0 6) = some (am_tyf TX0 6) := by decide +kernel
theorem ff_0_7 : am_fin 0 7 = true := by decide +kernel
theorem fo_X0_32 : am_fok RX0 32 0 7 2 325 = true := by decide +kernel
theorem ft_0_7 : parseFieldDescriptor (am_fd 0 7) = some (am_tyf TX0 7) := by decide +kernel
theorem ff_0_8 : am_fin 0 8 = true := by decide +kernel
theorem fo_X0_36 : am_fok RX0 36 0 8 2 326 = true := by decide +kernel
theorem ft_0_8 : parseFieldDescriptor (am_fd 0 8) = some (am_tyf TX0 8) := by decide +kernel
theorem kc_X0_40 : Cond.constant RX0 40 65535 ∈ am_gw := am_pl_in (p := 901) (by decide +kernel)
theorem ff_0_3 : am_fin 0 3 = false := by decide +kernel
theorem fo_X0_41 : am_fok RX0 41 0 3 0 321 = true := by decide +kernel
theorem ft_0_3 : parseFieldDescriptor (am_fd 0 3) = some .int := by decide +kernel
theorem mm_J7_304 : am_mmok RJ7 304 705 693 83 694 false = true := by decide +kernel
theorem ac_J7_150 : am_acok RJ7 150 706 656 655 82 = true := by decide +kernel
theorem mo_X0_45 : am_mok 1 RX0 45 yJ7_copyOf_59c91 cJ7_copyOf_59c91 3 (Option.some (Jvm.ClassFile.FieldType.array Jvm.ClassFile.FieldType.int)) 2 848 697 80 696 0 = true := by decide +kernel
theorem mo_X0_51 : am_mok 1 RX0 51 yX0_pitOf cX0_pitOf 1 (some .int) 1 963 954 76 953 0 = true := by decide +kernel
theorem fo_X3_11 : am_fok RX3 11 3 1 2 274 = true := by decide +kernel
theorem fo_X3_19 : am_fok RX3 19 3 0 2 273 = true := by decide +kernel
theorem fo_X3_23 : am_fok RX3 23 1 3 0 105 = true := by decide +kernel
theorem mo_X3_29 : am_mok 0 RX3 29 yX3_waysOf cX3_waysOf 3 (some .long) 2 786 789 73 788 17 = true := by decide +kernel
theorem fo_X3_41 : am_fok RX3 41 1 5 2 114 = true := by decide +kernel
theorem mo_X3_37 : am_mok 0 RX3 37 yX3_boardsUpTo cX3_boardsUpTo 2 (some .long) 1 803 785 73 783 784 = true := by decide +kernel
theorem mo_X3_48 : am_mok 1 RX3 48 yJ7_fill_53178 cJ7_fill_53178 4 none 2 816 509 80 508 0 = true := by decide +kernel
theorem fo_X10_27 : am_fok RX10 27 10 5 2 250 = true := by decide +kernel
theorem fo_X10_121 : am_fok RX10 121 1 8 2 121 = true := by decide +kernel
theorem fo_X10_124 : am_fok RX10 124 1 10 2 126 = true := by decide +kernel
theorem fo_X10_118 : am_fok RX10 118 1 7 2 118 = true := by decide +kernel
theorem fo_X10_99 : am_fok RX10 99 1 3 0 108 = true := by decide +kernel
theorem fo_X10_58 : am_fok RX10 58 1 9 2 124 = true := by decide +kernel
theorem fo_X10_31 : am_fok RX10 31 10 6 2 251 = true := by decide +kernel
theorem fo_X10_127 : am_fok RX10 127 8 2 0 181 = true := by decide +kernel
theorem fo_X10_130 : am_fok RX10 130 8 3 0 184 = true := by decide +kernel
theorem fo_X10_133 : am_fok RX10 133 1 12 2 130 = true := by decide +kernel
theorem fo_X10_87 : am_fok RX10 87 8 0 0 174 = true := by decide +kernel
theorem mo_X10_112 : am_mok 0 RX10 112 yX10_takeColumn cX10_takeColumn 6 (some .int) 3 664 667 72 666 11 = true := by decide +kernel
theorem mo_X10_115 : am_mok 0 RX10 115 yX10_takeChain cX10_takeChain 7 (some .int) 3 668 671 72 670 12 = true := by decide +kernel
theorem fo_X10_15 : am_fok RX10 15 10 1 2 241 = true := by decide +kernel
theorem mo_X10_109 : am_mok 0 RX10 109 yX10_takeBehind cX10_takeBehind 4 (some .int) 3 660 663 72 662 10 = true := by decide +kernel
theorem fo_X10_106 : am_fok RX10 106 8 1 0 177 = true := by decide +kernel
theorem mo_X10_102 : am_mok 1 RX10 102 yX10_sow cX10_sow 8 (some .int) 4 657 659 72 658 0 = true := by decide +kernel
theorem fo_X10_96 : am_fok RX10 96 1 6 2 116 = true := by decide +kernel
theorem fo_X10_93 : am_fok RX10 93 1 11 2 128 = true := by decide +kernel
theorem fo_X10_90 : am_fok RX10 90 1 13 2 132 = true := by decide +kernel
theorem fo_X10_21 : am_fok RX10 21 10 2 2 244 = true := by decide +kernel
theorem ac_X10_81 : am_acok RX10 81 654 656 655 82 = true := by decide +kernel
theorem fo_X1_25 : am_fok RX1 25 1 8 2 120 = true := by decide +kernel
theorem fo_X1_22 : am_fok RX1 22 1 7 2 117 = true := by decide +kernel
theorem fo_X10_61 : am_fok RX10 61 1 4 2 111 = true := by decide +kernel
theorem fo_X10_64 : am_fok RX10 64 8 4 0 186 = true := by decide +kernel
theorem mo_X10_69 : am_mok 0 RX10 69 yX10_carryOut cX10_carryOut 10 (some .boolean) 3 650 653 72 651 652 = true := by decide +kernel
theorem fo_X10_73 : am_fok RX10 73 8 5 0 189 = true := by decide +kernel
theorem mo_X10_77 : am_mok 0 RX10 77 yX1_seedsOf cX1_seedsOf 5 (some .int) 2 672 601 69 599 600 = true := by decide +kernel
theorem fo_X10_9 : am_fok RX10 9 10 0 2 238 = true := by decide +kernel
theorem fo_X10_51 : am_fok RX10 51 10 3 0 247 = true := by decide +kernel
theorem ff_10_3 : am_fin 10 3 = false := by decide +kernel
theorem ft_10_3 : parseFieldDescriptor (am_fd 10 3) = some .int := by decide +kernel
theorem fo_X10_35 : am_fok RX10 35 1 2 0 102 = true := by decide +kernel
theorem fo_X10_24 : am_fok RX10 24 10 4 2 249 = true := by decide +kernel
theorem mo_X10_41 : am_mok 0 RX10 41 yX10_tryPit cX10_tryPit 4 (some .int) 3 646 649 72 648 9 = true := by decide +kernel
theorem mm_X10_45 : am_mmok RX10 45 673 674 83 675 true = true := by decide +kernel
theorem mo_X1_65 : am_mok 0 RX1 65 yX1_seedsOf cX1_seedsOf 5 (some .int) 2 598 601 69 599 600 = true := by decide +kernel
theorem mo_X3_33 : am_mok 0 RX3 33 yX1_seedsIn cX1_seedsIn 2 (some .int) 1 802 597 69 595 596 = true := by decide +kernel
theorem fo_X8_35 : am_fok RX8 35 8 6 0 191 = true := by decide +kernel
theorem mo_X8_44 : am_mok 0 RX8 44 yX1_seedsIn cX1_seedsIn 2 (some .int) 1 760 597 69 595 596 = true := by decide +kernel
theorem mo_X8_38 : am_mok 0 RX8 38 yX1_seedsOf cX1_seedsOf 5 (some .int) 2 759 601 69 599 600 = true := by decide +kernel
theorem fo_X0_80 : am_fok RX0 80 1 8 2 122 = true := by decide +kernel
theorem mo_X0_98 : am_mok 0 RX0 98 yX8_countsFor cX8_countsFor 5 (some .int) 4 889 758 70 756 757 = true := by decide +kernel
theorem fo_X0_83 : am_fok RX0 83 10 0 2 239 = true := by decide +kernel
theorem fo_X0_87 : am_fok RX0 87 10 2 2 245 = true := by decide +kernel
theorem mo_X0_91 : am_mok 0 RX0 91 yX3_numberOf cX3_numberOf 8 (some .long) 1 888 801 73 799 800 = true := by decide +kernel
theorem fo_X0_95 : am_fok RX0 95 10 1 2 242 = true := by decide +kernel
theorem fo_X0_75 : am_fok RX0 75 1 7 2 119 = true := by decide +kernel
theorem mo_X0_65 : am_mok 0 RX0 65 yX10_survey cX10_survey 5 (some .int) 2 883 645 72 643 644 = true := by decide +kernel
theorem mo_X0_71 : am_mok 0 RX0 71 yX0_keepSurvey cX0_keepSurvey 6 none 2 884 887 76 886 21 = true := by decide +kernel
theorem mo_X0_61 : am_mok 0 RX0 61 yX3_fill cX3_fill 10 none 2 882 815 73 813 814 = true := by decide +kernel
theorem mo_X0_55 : am_mok 0 RX0 55 yX3_boardsUpTo cX3_boardsUpTo 2 (some .long) 1 881 785 73 783 784 = true := by decide +kernel
theorem oi_X1_3 : am_oiok RX1 3 97 90 91 = true := by decide +kernel
theorem na_newz : am_pl 165 (Cond.arrayClass .boolean) = true := by decide +kernel
theorem ff_1_4 : am_fin 1 4 = true := by decide +kernel
theorem fo_X1_9 : am_fok RX1 9 1 4 2 110 = true := by decide +kernel
theorem ft_1_4 : parseFieldDescriptor (am_fd 1 4) = some (am_tyf TX1 4) := by decide +kernel
theorem ff_1_5 : am_fin 1 5 = true := by decide +kernel
theorem fo_X1_15 : am_fok RX1 15 1 5 2 113 = true := by decide +kernel
theorem ft_1_5 : parseFieldDescriptor (am_fd 1 5) = some (am_tyf TX1 5) := by decide +kernel
theorem ff_1_6 : am_fin 1 6 = true := by decide +kernel
theorem fo_X1_19 : am_fok RX1 19 1 6 2 115 = true := by decide +kernel
theorem ft_1_6 : parseFieldDescriptor (am_fd 1 6) = some (am_tyf TX1 6) := by decide +kernel
theorem ff_1_7 : am_fin 1 7 = true := by decide +kernel
theorem ft_1_7 : parseFieldDescriptor (am_fd 1 7) = some (am_tyf TX1 7) := by decide +kernel
theorem ff_1_8 : am_fin 1 8 = true := by decide +kernel
theorem ft_1_8 : parseFieldDescriptor (am_fd 1 8) = some (am_tyf TX1 8) := by decide +kernel
theorem ff_1_9 : am_fin 1 9 = true := by decide +kernel
theorem fo_X1_28 : am_fok RX1 28 1 9 2 123 = true := by decide +kernel
theorem ft_1_9 : parseFieldDescriptor (am_fd 1 9) = some (am_tyf TX1 9) := by decide +kernel
theorem ff_1_10 : am_fin 1 10 = true := by decide +kernel
theorem fo_X1_31 : am_fok RX1 31 1 10 2 125 = true := by decide +kernel
theorem ft_1_10 : parseFieldDescriptor (am_fd 1 10) = some (am_tyf TX1 10) := by decide +kernel
theorem ff_1_11 : am_fin 1 11 = true := by decide +kernel
theorem fo_X1_34 : am_fok RX1 34 1 11 2 127 = true := by decide +kernel
theorem ft_1_11 : parseFieldDescriptor (am_fd 1 11) = some (am_tyf TX1 11) := by decide +kernel
theorem ff_1_12 : am_fin 1 12 = true := by decide +kernel
theorem fo_X1_37 : am_fok RX1 37 1 12 2 129 = true := by decide +kernel
theorem ft_1_12 : parseFieldDescriptor (am_fd 1 12) = some (am_tyf TX1 12) := by decide +kernel
theorem ff_1_13 : am_fin 1 13 = true := by decide +kernel
theorem fo_X1_40 : am_fok RX1 40 1 13 2 131 = true := by decide +kernel
theorem ft_1_13 : parseFieldDescriptor (am_fd 1 13) = some (am_tyf TX1 13) := by decide +kernel
theorem ff_1_14 : am_fin 1 14 = true := by decide +kernel
theorem fo_X1_43 : am_fok RX1 43 1 14 2 133 = true := by decide +kernel
theorem ft_1_14 : parseFieldDescriptor (am_fd 1 14) = some (am_tyf TX1 14) := by decide +kernel
theorem fo_X1_53 : am_fok RX1 53 1 2 0 103 = true := by decide +kernel
theorem fo_X1_75 : am_fok RX1 75 1 3 0 109 = true := by decide +kernel
theorem ff_1_3 : am_fin 1 3 = false := by decide +kernel
theorem ft_1_3 : parseFieldDescriptor (am_fd 1 3) = some .int := by decide +kernel
theorem fo_X1_50 : am_fok RX1 50 1 1 0 100 = true := by decide +kernel
theorem mo_X1_82 : am_mok 0 RX1 82 yX1_pitAt cX1_pitAt 3 (some .int) 2 487 490 69 488 489 = true := by decide +kernel
theorem fo_X1_46 : am_fok RX1 46 1 0 0 98 = true := by decide +kernel
theorem mo_X1_78 : am_mok 0 RX1 78 yX1_linkRing cX1_linkRing 5 none 3 491 494 69 493 4 = true := by decide +kernel
theorem mo_X1_69 : am_mok 0 RX1 69 yX1_listLive cX1_listLive 2 none 0 479 482 69 481 2 = true := by decide +kernel
theorem mo_X1_72 : am_mok 0 RX1 72 yX1_listWay cX1_listWay 6 none 0 483 486 69 485 3 = true := by decide +kernel
theorem mo_X1_56 : am_mok 0 RX1 56 yX1_layOut cX1_layOut 2 none 0 475 478 69 477 1 = true := by decide +kernel
theorem ff_1_0 : am_fin 1 0 = false := by decide +kernel
theorem ft_1_0 : parseFieldDescriptor (am_fd 1 0) = some .int := by decide +kernel
theorem ff_1_1 : am_fin 1 1 = false := by decide +kernel
theorem ft_1_1 : parseFieldDescriptor (am_fd 1 1) = some .int := by decide +kernel
theorem ff_1_2 : am_fin 1 2 = false := by decide +kernel
theorem ft_1_2 : parseFieldDescriptor (am_fd 1 2) = some .int := by decide +kernel
theorem mm_X1_59 : am_mmok RX1 59 830 674 83 675 true = true := by decide +kernel
theorem oi_X2_3 : am_oiok RX2 3 431 90 91 = true := by decide +kernel
theorem ff_2_2 : am_fin 2 2 = false := by decide +kernel
theorem fo_X2_9 : am_fok RX2 9 2 2 0 436 = true := by decide +kernel
theorem ft_2_2 : parseFieldDescriptor (am_fd 2 2) = some .int := by decide +kernel
theorem ff_2_3 : am_fin 2 3 = true := by decide +kernel
theorem fo_X2_15 : am_fok RX2 15 2 3 2 438 = true := by decide +kernel
theorem ft_2_3 : parseFieldDescriptor (am_fd 2 3) = some (am_tyf TX2 3) := by decide +kernel
theorem ff_2_4 : am_fin 2 4 = true := by decide +kernel
theorem fo_X2_19 : am_fok RX2 19 2 4 2 440 = true := by decide +kernel
theorem ft_2_4 : parseFieldDescriptor (am_fd 2 4) = some (am_tyf TX2 4) := by decide +kernel
theorem ff_2_0 : am_fin 2 0 = false := by decide +kernel
theorem fo_X2_22 : am_fok RX2 22 2 0 0 432 = true := by decide +kernel
theorem ft_2_0 : parseFieldDescriptor (am_fd 2 0) = some .boolean := by decide +kernel
theorem ff_2_1 : am_fin 2 1 = false := by decide +kernel
theorem fo_X2_26 : am_fok RX2 26 2 1 0 434 = true := by decide +kernel
theorem ft_2_1 : parseFieldDescriptor (am_fd 2 1) = some .int := by decide +kernel
theorem mo_X9_96 : am_mok 1 RX9 96 yX0_takenBy cX0_takenBy 1 (some .int) 1 947 913 76 912 0 = true := by decide +kernel
theorem fo_X9_9 : am_fok RX9 9 9 4 2 386 = true := by decide +kernel
theorem mo_X9_100 : am_mok 1 RX9 100 yX0_placeBehind cX0_placeBehind 1 (some .int) 1 948 900 76 899 0 = true := by decide +kernel
theorem fo_X9_41 : am_fok RX9 41 9 0 2 378 = true := by decide +kernel
theorem fo_X9_103 : am_fok RX9 103 0 1 2 317 = true := by decide +kernel
theorem fo_X9_106 : am_fok RX9 106 0 2 2 320 = true := by decide +kernel
theorem mo_X9_109 : am_mok 0 RX9 109 yX9_reachOf cX9_reachOf 2 (some .int) 1 943 946 75 944 945 = true := by decide +kernel
theorem fo_X9_15 : am_fok RX9 15 9 5 2 388 = true := by decide +kernel
theorem mo_X9_112 : am_mok 1 RX9 112 yX9_goesForward cX9_goesForward 3 (some .boolean) 3 949 951 75 950 0 = true := by decide +kernel
theorem mo_X2_32 : am_mok 0 RX2 32 yX9_bestEdge cX9_bestEdge 4 (some .int) 1 1018 942 75 940 941 = true := by decide +kernel
theorem mo_X2_38 : am_mok 1 RX2 38 yX0_placeBehind cX0_placeBehind 1 (some .int) 1 1019 900 76 899 0 = true := by decide +kernel
theorem mo_X2_43 : am_mok 1 RX2 43 yX0_pitOf cX0_pitOf 1 (some .int) 1 1020 954 76 953 0 = true := by decide +kernel
theorem mo_X2_46 : am_mok 0 RX2 46 yX2_indexOf cX2_indexOf 3 (some .int) 1 1021 1024 78 1023 26 = true := by decide +kernel
theorem mo_X2_29 : am_mok 0 RX2 29 yX2_clear cX2_clear 1 none 0 1017 517 78 515 516 = true := by decide +kernel
theorem oi_X3_3 : am_oiok RX3 3 272 90 91 = true := by decide +kernel
theorem na_newl : am_pl 283 (Cond.arrayClass .long) = true := by decide +kernel
theorem ff_3_1 : am_fin 3 1 = true := by decide +kernel
theorem ft_3_1 : parseFieldDescriptor (am_fd 3 1) = some (am_tyf TX3 1) := by decide +kernel
theorem ff_3_2 : am_fin 3 2 = true := by decide +kernel
theorem fo_X3_15 : am_fok RX3 15 3 2 2 275 = true := by decide +kernel
theorem ft_3_2 : parseFieldDescriptor (am_fd 3 2) = some (am_tyf TX3 2) := by decide +kernel
theorem ff_3_0 : am_fin 3 0 = true := by decide +kernel
theorem ft_3_0 : parseFieldDescriptor (am_fd 3 0) = some (am_tyf TX3 0) := by decide +kernel
theorem mo_X3_44 : am_mok 0 RX3 44 yX3_fill cX3_fill 10 none 2 812 815 73 813 814 = true := by decide +kernel
theorem oi_X4_3 : am_oiok RX4 3 289 90 91 = true := by decide +kernel
theorem ff_4_2 : am_fin 4 2 = false := by decide +kernel
theorem fo_X4_9 : am_fok RX4 9 4 2 2 293 = true := by decide +kernel
theorem ft_4_2 : parseFieldDescriptor (am_fd 4 2) = some (am_tyf TX4 2) := by decide +kernel
theorem ff_4_3 : am_fin 4 3 = false := by decide +kernel
theorem fo_X4_15 : am_fok RX4 15 4 3 2 294 = true := by decide +kernel
theorem ft_4_3 : parseFieldDescriptor (am_fd 4 3) = some (am_tyf TX4 3) := by decide +kernel
theorem ff_4_0 : am_fin 4 0 = false := by decide +kernel
theorem fo_X4_18 : am_fok RX4 18 4 0 0 290 = true := by decide +kernel
theorem ft_4_0 : parseFieldDescriptor (am_fd 4 0) = some .int := by decide +kernel
theorem ff_4_1 : am_fin 4 1 = false := by decide +kernel
theorem fo_X4_22 : am_fok RX4 22 4 1 0 292 = true := by decide +kernel
theorem ft_4_1 : parseFieldDescriptor (am_fd 4 1) = some .int := by decide +kernel
theorem mm_X4_49 : am_mmok RX4 49 692 693 83 694 false = true := by decide +kernel
theorem mo_X4_55 : am_mok 1 RX4 55 yJ7_copyOf_59c91 cJ7_copyOf_59c91 3 (Option.some (Jvm.ClassFile.FieldType.array Jvm.ClassFile.FieldType.int)) 2 695 697 80 696 0 = true := by decide +kernel
theorem fo_X4_32 : am_fok RX4 32 6 0 2 216 = true := by decide +kernel
theorem ac_X4_37 : am_acok RX4 37 711 656 655 82 = true := by decide +kernel
theorem fo_X4_43 : am_fok RX4 43 6 1 2 218 = true := by decide +kernel
theorem mo_X4_25 : am_mok 0 RX4 25 yX4_makeRoom cX4_makeRoom 2 none 0 688 691 74 690 14 = true := by decide +kernel
theorem mo_X4_28 : am_mok 0 RX4 28 yX4_keepAgain cX4_keepAgain 3 none 1 707 710 74 708 709 = true := by decide +kernel
theorem fo_X4_46 : am_fok RX4 46 6 2 0 221 = true := by decide +kernel
theorem ff_6_2 : am_fin 6 2 = false := by decide +kernel
theorem ft_6_2 : parseFieldDescriptor (am_fd 6 2) = some .int := by decide +kernel
theorem oi_X5_1 : am_oiok RX5 1 458 90 91 = true := by decide +kernel
theorem ff_5_1 : am_fin 5 1 = false := by decide +kernel
theorem fo_X5_13 : am_fok RX5 13 5 1 1 461 = true := by decide +kernel
theorem ft_5_1 : parseFieldDescriptor (am_fd 5 1) = some .long := by decide +kernel
theorem ff_5_0 : am_fin 5 0 = false := by decide +kernel
theorem fo_X5_7 : am_fok RX5 7 5 0 0 459 = true := by decide +kernel
theorem ft_5_0 : parseFieldDescriptor (am_fd 5 0) = some .int := by decide +kernel
theorem oi_X6_3 : am_oiok RX6 3 213 90 91 = true := by decide +kernel
theorem ff_6_0 : am_fin 6 0 = true := by decide +kernel
theorem fo_X6_9 : am_fok RX6 9 6 0 2 214 = true := by decide +kernel
theorem ft_6_0 : parseFieldDescriptor (am_fd 6 0) = some (am_tyf TX6 0) := by decide +kernel
theorem ff_6_1 : am_fin 6 1 = true := by decide +kernel
theorem fo_X6_15 : am_fok RX6 15 6 1 2 217 = true := by decide +kernel
theorem ft_6_1 : parseFieldDescriptor (am_fd 6 1) = some (am_tyf TX6 1) := by decide +kernel
theorem mo_X6_18 : am_mok 1 RX6 18 yJ7_fill_53178 cJ7_fill_53178 4 none 2 507 509 80 508 0 = true := by decide +kernel
theorem fo_X6_24 : am_fok RX6 24 6 2 0 220 = true := by decide +kernel
theorem ac_X6_28 : am_acok RX6 28 716 656 655 82 = true := by decide +kernel
theorem oi_X7_3 : am_oiok RX7 3 355 90 91 = true := by decide +kernel
theorem ff_7_1 : am_fin 7 1 = false := by decide +kernel
theorem fo_X7_9 : am_fok RX7 9 7 1 2 357 = true := by decide +kernel
theorem ft_7_1 : parseFieldDescriptor (am_fd 7 1) = some (am_tyf TX7 1) := by decide +kernel
theorem ff_7_2 : am_fin 7 2 = false := by decide +kernel
theorem fo_X7_15 : am_fok RX7 15 7 2 2 358 = true := by decide +kernel
theorem ft_7_2 : parseFieldDescriptor (am_fd 7 2) = some (am_tyf TX7 2) := by decide +kernel
theorem ff_7_3 : am_fin 7 3 = false := by decide +kernel
theorem fo_X7_18 : am_fok RX7 18 7 3 2 359 = true := by decide +kernel
theorem ft_7_3 : parseFieldDescriptor (am_fd 7 3) = some (am_tyf TX7 3) := by decide +kernel
theorem ff_7_4 : am_fin 7 4 = false := by decide +kernel
theorem fo_X7_21 : am_fok RX7 21 7 4 2 360 = true := by decide +kernel
theorem ft_7_4 : parseFieldDescriptor (am_fd 7 4) = some (am_tyf TX7 4) := by decide +kernel
theorem ff_7_5 : am_fin 7 5 = false := by decide +kernel
theorem fo_X7_24 : am_fok RX7 24 7 5 2 361 = true := by decide +kernel
theorem ft_7_5 : parseFieldDescriptor (am_fd 7 5) = some (am_tyf TX7 5) := by decide +kernel
theorem ff_7_6 : am_fin 7 6 = false := by decide +kernel
theorem fo_X7_27 : am_fok RX7 27 7 6 2 362 = true := by decide +kernel
theorem ft_7_6 : parseFieldDescriptor (am_fd 7 6) = some (am_tyf TX7 6) := by decide +kernel
theorem ff_7_0 : am_fin 7 0 = true := by decide +kernel
theorem fo_X7_30 : am_fok RX7 30 7 0 2 356 = true := by decide +kernel
theorem ft_7_0 : parseFieldDescriptor (am_fd 7 0) = some (am_tyf TX7 0) := by decide +kernel
theorem fo_X7_56 : am_fok RX7 56 0 1 2 316 = true := by decide +kernel
theorem fo_X7_59 : am_fok RX7 59 0 2 2 319 = true := by decide +kernel
theorem mo_X7_62 : am_mok 1 RX7 62 yX0_placeBehind cX0_placeBehind 1 (some .int) 1 898 900 76 899 0 = true := by decide +kernel
theorem mo_X7_66 : am_mok 1 RX7 66 yX0_takenBy cX0_takenBy 1 (some .int) 1 911 913 76 912 0 = true := by decide +kernel
theorem mm_X7_69 : am_mmok RX7 69 914 674 83 675 true = true := by decide +kernel
theorem kc_X7_47 : Cond.constant RX7 47 1000000 ∈ am_gw := am_pl_in (p := 906) (by decide +kernel)
theorem mo_X7_48 : am_mok 0 RX7 48 yX7_weigh cX7_weigh 8 none 2 907 910 77 909 23 = true := by decide +kernel
theorem mo_X7_52 : am_mok 0 RX7 52 yX7_settle cX7_settle 9 (some .int) 4 915 918 77 917 24 = true := by decide +kernel
theorem mo_X7_38 : am_mok 0 RX7 38 yX0_hasMove cX0_hasMove 2 (some .boolean) 1 902 905 76 903 904 = true := by decide +kernel
theorem fo_X7_44 : am_fok RX7 44 0 0 2 313 = true := by decide +kernel
theorem mo_X7_34 : am_mok 0 RX7 34 yX7_listLeaders cX7_listLeaders 6 none 2 894 897 77 896 22 = true := by decide +kernel
theorem oi_X8_3 : am_oiok RX8 3 172 90 91 = true := by decide +kernel
theorem ff_8_0 : am_fin 8 0 = false := by decide +kernel
theorem fo_X8_9 : am_fok RX8 9 8 0 0 173 = true := by decide +kernel
theorem ft_8_0 : parseFieldDescriptor (am_fd 8 0) = some .int := by decide +kernel
theorem ff_8_1 : am_fin 8 1 = false := by decide +kernel
theorem fo_X8_15 : am_fok RX8 15 8 1 0 176 = true := by decide +kernel
theorem ft_8_1 : parseFieldDescriptor (am_fd 8 1) = some .int := by decide +kernel
theorem ff_8_2 : am_fin 8 2 = false := by decide +kernel
theorem fo_X8_18 : am_fok RX8 18 8 2 0 179 = true := by decide +kernel
theorem ft_8_2 : parseFieldDescriptor (am_fd 8 2) = some .int := by decide +kernel
theorem ff_8_3 : am_fin 8 3 = false := by decide +kernel
theorem fo_X8_21 : am_fok RX8 21 8 3 0 182 = true := by decide +kernel
theorem ft_8_3 : parseFieldDescriptor (am_fd 8 3) = some .int := by decide +kernel
theorem mo_X8_24 : am_mok 0 RX8 24 yX8_become cX8_become 2 none 1 499 502 70 500 501 = true := by decide +kernel
theorem ff_8_4 : am_fin 8 4 = false := by decide +kernel
theorem fo_X8_28 : am_fok RX8 28 8 4 0 185 = true := by decide +kernel
theorem ft_8_4 : parseFieldDescriptor (am_fd 8 4) = some .int := by decide +kernel
theorem ff_8_5 : am_fin 8 5 = false := by decide +kernel
theorem fo_X8_31 : am_fok RX8 31 8 5 0 188 = true := by decide +kernel
theorem ft_8_5 : parseFieldDescriptor (am_fd 8 5) = some .boolean := by decide +kernel
theorem ff_8_6 : am_fin 8 6 = false := by decide +kernel
theorem ft_8_6 : parseFieldDescriptor (am_fd 8 6) = some .int := by decide +kernel
theorem oi_X9_3 : am_oiok RX9 3 349 90 91 = true := by decide +kernel
theorem ff_9_4 : am_fin 9 4 = false := by decide +kernel
theorem ft_9_4 : parseFieldDescriptor (am_fd 9 4) = some (am_tyf TX9 4) := by decide +kernel
theorem ff_9_5 : am_fin 9 5 = false := by decide +kernel
theorem ft_9_5 : parseFieldDescriptor (am_fd 9 5) = some (am_tyf TX9 5) := by decide +kernel
theorem ff_9_6 : am_fin 9 6 = false := by decide +kernel
theorem fo_X9_18 : am_fok RX9 18 9 6 2 390 = true := by decide +kernel
theorem ft_9_6 : parseFieldDescriptor (am_fd 9 6) = some (am_tyf TX9 6) := by decide +kernel
theorem ff_9_7 : am_fin 9 7 = false := by decide +kernel
theorem fo_X9_21 : am_fok RX9 21 9 7 2 392 = true := by decide +kernel
theorem ft_9_7 : parseFieldDescriptor (am_fd 9 7) = some (am_tyf TX9 7) := by decide +kernel
theorem nw_X9_24 : am_nok RX9 24 7 7 350 351 77 = true := by decide +kernel
theorem mo_X9_26 : am_mok 2 RX9 26 yX7_init cX7_init 2 none 1 352 354 77 353 0 = true := by decide +kernel
theorem ff_9_10 : am_fin 9 10 = true := by decide +kernel
theorem fo_X9_29 : am_fok RX9 29 9 10 2 396 = true := by decide +kernel
theorem ft_9_10 : parseFieldDescriptor (am_fd 9 10) = some (am_tyf TX9 10) := by decide +kernel
theorem ff_9_11 : am_fin 9 11 = true := by decide +kernel
theorem fo_X9_33 : am_fok RX9 33 9 11 2 397 = true := by decide +kernel
theorem ft_9_11 : parseFieldDescriptor (am_fd 9 11) = some (am_tyf TX9 11) := by decide +kernel
theorem ff_9_12 : am_fin 9 12 = true := by decide +kernel
theorem fo_X9_37 : am_fok RX9 37 9 12 2 398 = true := by decide +kernel
theorem ft_9_12 : parseFieldDescriptor (am_fd 9 12) = some (am_tyf TX9 12) := by decide +kernel
theorem ff_9_0 : am_fin 9 0 = true := by decide +kernel
theorem ft_9_0 : parseFieldDescriptor (am_fd 9 0) = some (am_tyf TX9 0) := by decide +kernel
theorem ff_9_1 : am_fin 9 1 = false := by decide +kernel
theorem fo_X9_45 : am_fok RX9 45 9 1 0 380 = true := by decide +kernel
theorem ft_9_1 : parseFieldDescriptor (am_fd 9 1) = some .boolean := by decide +kernel
theorem mo_X9_49 : am_mok 0 RX9 49 yX0_clear cX0_clear 1 none 0 530 533 76 531 532 = true := by decide +kernel
theorem fo_X9_64 : am_fok RX9 64 9 2 0 382 = true := by decide +kernel
theorem mm_X9_127 : am_mmok RX9 127 841 674 83 675 true = true := by decide +kernel
theorem kc_X9_133 : Cond.constant RX9 133 40000 ∈ am_gw := am_pl_in (p := 842) (by decide +kernel)
theorem mm_X9_134 : am_mmok RX9 134 843 693 83 694 false = true := by decide +kernel
theorem mo_X9_137 : am_mok 0 RX9 137 yX0_makeRoom cX0_makeRoom 2 none 1 844 847 76 845 846 = true := by decide +kernel
theorem mo_X9_139 : am_mok 0 RX9 139 yX7_makeRoom cX7_makeRoom 2 none 1 849 852 77 850 851 = true := by decide +kernel
theorem mo_X9_140 : am_mok 0 RX9 140 yX0_makeMoveRoom cX0_makeMoveRoom 2 none 1 857 860 76 858 859 = true := by decide +kernel
theorem mo_X9_141 : am_mok 0 RX9 141 yX7_makeMoveRoom cX7_makeMoveRoom 2 none 1 861 864 77 862 863 = true := by decide +kernel
theorem ff_9_8 : am_fin 9 8 = false := by decide +kernel
theorem fo_X9_54 : am_fok RX9 54 9 8 0 394 = true := by decide +kernel
theorem ft_9_8 : parseFieldDescriptor (am_fd 9 8) = some .int := by decide +kernel
theorem mo_X9_58 : am_mok 0 RX9 58 yX3_boardsUpTo cX3_boardsUpTo 2 (some .long) 1 836 785 73 783 784 = true := by decide +kernel
theorem ff_9_2 : am_fin 9 2 = false := by decide +kernel
theorem ft_9_2 : parseFieldDescriptor (am_fd 9 2) = some .int := by decide +kernel
theorem ff_9_9 : am_fin 9 9 = false := by decide +kernel
theorem fo_X9_67 : am_fok RX9 67 9 9 0 395 = true := by decide +kernel
theorem ft_9_9 : parseFieldDescriptor (am_fd 9 9) = some .int := by decide +kernel
theorem ff_9_3 : am_fin 9 3 = false := by decide +kernel
theorem fo_X9_70 : am_fok RX9 70 9 3 0 384 = true := by decide +kernel
theorem ft_9_3 : parseFieldDescriptor (am_fd 9 3) = some .int := by decide +kernel
theorem mo_X9_73 : am_mok 0 RX9 73 yX9_makeRoom cX9_makeRoom 2 none 0 837 840 75 839 19 = true := by decide +kernel
theorem fo_X9_76 : am_fok RX9 76 1 3 0 107 = true := by decide +kernel
theorem mo_X9_81 : am_mok 0 RX9 81 yX9_makeMoveRoom cX9_makeMoveRoom 3 none 1 853 856 75 855 20 = true := by decide +kernel
theorem mo_X9_85 : am_mok 0 RX9 85 yX9_has cX9_has 2 (some .boolean) 1 927 930 75 928 929 = true := by decide +kernel
theorem mo_X9_89 : am_mok 0 RX9 89 yX0_buildLayer cX0_buildLayer 5 none 1 877 880 76 878 879 = true := by decide +kernel
theorem mo_X9_92 : am_mok 0 RX9 92 yX7_solveLayer cX7_solveLayer 7 none 4 890 893 77 891 892 = true := by decide +kernel
theorem ac_X9_116 : am_acok RX9 116 995 656 655 82 = true := by decide +kernel
theorem mo_X9_142 : am_mok 0 RX9 142 yX0_hasMove cX0_hasMove 2 (some .boolean) 1 1008 905 76 903 904 = true := by decide +kernel
theorem fo_X9_145 : am_fok RX9 145 0 0 2 314 = true := by decide +kernel
theorem mo_X9_122 : am_mok 0 RX9 122 yX9_isClaimRight cX9_isClaimRight 10 (some .boolean) 1 1004 1007 75 1006 25 = true := by decide +kernel
theorem kc_X9_125 : Cond.constantLong RX9 125 31 ∈ am_gw := am_pl_in (p := 1076) (by decide +kernel)
theorem oi_X10_3 : am_oiok RX10 3 235 90 91 = true := by decide +kernel
theorem ff_10_0 : am_fin 10 0 = true := by decide +kernel
theorem ft_10_0 : parseFieldDescriptor (am_fd 10 0) = some (am_tyf TX10 0) := by decide +kernel
theorem ff_10_1 : am_fin 10 1 = true := by decide +kernel
theorem ft_10_1 : parseFieldDescriptor (am_fd 10 1) = some (am_tyf TX10 1) := by decide +kernel
theorem mn_X10_19 : am_pl 236 (Cond.classLink RX10 19 ("[" ++ (FieldType.array .int).toString)) = true := by decide +kernel
theorem ff_10_2 : am_fin 10 2 = true := by decide +kernel
theorem ft_10_2 : parseFieldDescriptor (am_fd 10 2) = some (am_tyf TX10 2) := by decide +kernel
theorem ff_10_4 : am_fin 10 4 = true := by decide +kernel
theorem ft_10_4 : parseFieldDescriptor (am_fd 10 4) = some (am_tyf TX10 4) := by decide +kernel
theorem ff_10_5 : am_fin 10 5 = true := by decide +kernel
theorem ft_10_5 : parseFieldDescriptor (am_fd 10 5) = some (am_tyf TX10 5) := by decide +kernel
theorem ff_10_6 : am_fin 10 6 = true := by decide +kernel
theorem ft_10_6 : parseFieldDescriptor (am_fd 10 6) = some (am_tyf TX10 6) := by decide +kernel
theorem mo_X10_54 : am_mok 0 RX10 54 yX10_openAt cX10_openAt 4 (some .int) 1 1049 1052 72 1050 1051 = true := by decide +kernel
theorem fo_X11_51 : am_fok RX11 51 11 5 2 539 = true := by decide +kernel
theorem mo_X11_122 : am_mok 0 RX11 122 yX4_clear cX4_clear 1 none 0 522 525 74 523 524 = true := by decide +kernel
theorem fo_X11_65 : am_fok RX11 65 11 6 2 540 = true := by decide +kernel
theorem mo_X11_349 : am_mok 0 RX11 349 yX9_forget cX9_forget 1 none 0 526 529 75 527 528 = true := by decide +kernel
theorem fo_X11_12 : am_fok RX11 12 11 0 2 534 = true := by decide +kernel
theorem mo_X11_342 : am_mok 0 RX11 342 yX1_lay cX1_lay 4 none 2 471 474 69 472 473 = true := by decide +kernel
theorem fo_X11_19 : am_fok RX11 19 11 1 2 535 = true := by decide +kernel
theorem mo_X11_345 : am_mok 0 RX11 345 yX8_becomeFirst cX8_becomeFirst 1 none 0 495 498 70 496 497 = true := by decide +kernel
theorem fo_X11_26 : am_fok RX11 26 11 2 2 536 = true := by decide +kernel
theorem mo_X11_348 : am_mok 0 RX11 348 yX6_clear cX6_clear 1 none 0 503 506 71 504 505 = true := by decide +kernel
theorem fo_X11_79 : am_fok RX11 79 11 8 2 542 = true := by decide +kernel
theorem mo_X11_320 : am_mok 0 RX11 320 yX5_become cX5_become 4 none 2 510 513 79 511 512 = true := by decide +kernel
theorem fo_X11_72 : am_fok RX11 72 11 7 2 541 = true := by decide +kernel
theorem mo_X11_244 : am_mok 0 RX11 244 yX2_clear cX2_clear 1 none 0 514 517 78 515 516 = true := by decide +kernel
theorem mo_X11_119 : am_mok 0 RX11 119 yX11_forgetRuling cX11_forgetRuling 1 none 0 518 521 68 520 5 = true := by decide +kernel
theorem oi_X11_3 : am_oiok RX11 3 89 90 91 = true := by decide +kernel
theorem nw_X11_9 : am_nok RX11 9 1 15 92 93 69 = true := by decide +kernel
theorem mo_X11_11 : am_mok 2 RX11 11 yX1_init cX1_init 1 none 0 94 96 69 95 0 = true := by decide +kernel
theorem ff_11_0 : am_fin 11 0 = true := by decide +kernel
theorem ft_11_0 : parseFieldDescriptor (am_fd 11 0) = some (am_tyf TX11 0) := by decide +kernel
theorem nw_X11_16 : am_nok RX11 16 8 7 167 168 70 = true := by decide +kernel
theorem mo_X11_18 : am_mok 2 RX11 18 yX8_init cX8_init 1 none 0 169 171 70 170 0 = true := by decide +kernel
theorem ff_11_1 : am_fin 11 1 = true := by decide +kernel
theorem ft_11_1 : parseFieldDescriptor (am_fd 11 1) = some (am_tyf TX11 1) := by decide +kernel
theorem nw_X11_23 : am_nok RX11 23 6 3 208 209 71 = true := by decide +kernel
theorem mo_X11_25 : am_mok 2 RX11 25 yX6_init cX6_init 1 none 0 210 212 71 211 0 = true := by decide +kernel
theorem ff_11_2 : am_fin 11 2 = true := by decide +kernel
theorem ft_11_2 : parseFieldDescriptor (am_fd 11 2) = some (am_tyf TX11 2) := by decide +kernel
theorem nw_X11_30 : am_nok RX11 30 10 7 230 231 72 = true := by decide +kernel
theorem mo_X11_32 : am_mok 2 RX11 32 yX10_init cX10_init 3 none 2 232 234 72 233 0 = true := by decide +kernel
theorem ff_11_3 : am_fin 11 3 = true := by decide +kernel
theorem fo_X11_35 : am_fok RX11 35 11 3 2 537 = true := by decide +kernel
theorem ft_11_3 : parseFieldDescriptor (am_fd 11 3) = some (am_tyf TX11 3) := by decide +kernel
theorem nw_X11_39 : am_nok RX11 39 3 3 267 268 73 = true := by decide +kernel
theorem mo_X11_41 : am_mok 2 RX11 41 yX3_init cX3_init 3 none 1 269 271 73 270 0 = true := by decide +kernel
theorem ff_11_4 : am_fin 11 4 = true := by decide +kernel
theorem fo_X11_44 : am_fok RX11 44 11 4 2 538 = true := by decide +kernel
theorem ft_11_4 : parseFieldDescriptor (am_fd 11 4) = some (am_tyf TX11 4) := by decide +kernel
theorem nw_X11_48 : am_nok RX11 48 4 4 284 285 74 = true := by decide +kernel
theorem mo_X11_50 : am_mok 2 RX11 50 yX4_init cX4_init 1 none 0 286 288 74 287 0 = true := by decide +kernel
theorem ff_11_5 : am_fin 11 5 = true := by decide +kernel
theorem ft_11_5 : parseFieldDescriptor (am_fd 11 5) = some (am_tyf TX11 5) := by decide +kernel
theorem nw_X11_55 : am_nok RX11 55 9 13 304 305 75 = true := by decide +kernel
theorem nw_X11_57 : am_nok RX11 57 0 9 306 307 76 = true := by decide +kernel
theorem mo_X11_59 : am_mok 2 RX11 59 yX0_init cX0_init 5 none 4 308 310 76 309 0 = true := by decide +kernel
theorem mo_X11_62 : am_mok 2 RX11 62 yX9_init cX9_init 4 none 3 346 348 75 347 0 = true := by decide +kernel
theorem ff_11_6 : am_fin 11 6 = true := by decide +kernel
theorem ft_11_6 : parseFieldDescriptor (am_fd 11 6) = some (am_tyf TX11 6) := by decide +kernel
theorem nw_X11_69 : am_nok RX11 69 2 5 426 427 78 = true := by decide +kernel
theorem mo_X11_71 : am_mok 2 RX11 71 yX2_init cX2_init 1 none 0 428 430 78 429 0 = true := by decide +kernel
theorem ff_11_7 : am_fin 11 7 = true := by decide +kernel
theorem ft_11_7 : parseFieldDescriptor (am_fd 11 7) = some (am_tyf TX11 7) := by decide +kernel
theorem an_X11_76 : am_pl 452 (Cond.classLink RX11 76 "SowingHouse$Player") = true := by decide +kernel
theorem nw_X11_76 : am_nok RX11 76 5 2 452 454 79 = true := by decide +kernel
theorem mo_X11_78 : am_mok 2 RX11 78 yX5_init cX5_init 1 none 0 455 457 79 456 0 = true := by decide +kernel
theorem ff_11_8 : am_fin 11 8 = true := by decide +kernel
theorem ft_11_8 : parseFieldDescriptor (am_fd 11 8) = some (am_tyf TX11 8) := by decide +kernel
theorem ff_11_9 : am_fin 11 9 = false := by decide +kernel
theorem fo_X11_83 : am_fok RX11 83 11 9 0 543 = true := by decide +kernel
theorem ft_11_9 : parseFieldDescriptor (am_fd 11 9) = some .int := by decide +kernel
theorem mo_X11_87 : am_mok 0 RX11 87 yX11_layBoard cX11_layBoard 3 none 2 467 470 68 469 0 = true := by decide +kernel
theorem mo_X11_91 : am_mok 0 RX11 91 yX11_refuse cX11_refuse 2 (some .int) 1 569 572 68 571 6 = true := by decide +kernel
theorem fo_X11_95 : am_fok RX11 95 1 2 0 104 = true := by decide +kernel
theorem mo_X11_98 : am_mok 0 RX11 98 yX11_accept cX11_accept 2 (some .int) 1 573 576 68 575 7 = true := by decide +kernel
theorem fo_X11_336 : am_fok RX11 336 1 0 0 99 = true := by decide +kernel
theorem fo_X11_339 : am_fok RX11 339 1 1 0 101 = true := by decide +kernel
theorem fo_X11_330 : am_fok RX11 330 1 4 2 112 = true := by decide +kernel
theorem mo_X11_105 : am_mok 0 RX11 105 yX1_pitAt cX1_pitAt 3 (some .int) 2 585 490 69 488 489 = true := by decide +kernel
theorem mo_X11_101 : am_mok 0 RX11 101 yX11_whyNoPit cX11_whyNoPit 3 (some .int) 2 581 584 68 583 8 = true := by decide +kernel
theorem fo_X11_108 : am_fok RX11 108 6 0 2 215 = true := by decide +kernel
theorem fo_X11_112 : am_fok RX11 112 1 3 0 106 = true := by decide +kernel
theorem mo_X11_115 : am_mok 0 RX11 115 yX1_takeOut cX1_takeOut 2 none 1 586 589 69 587 588 = true := by decide +kernel
theorem mo_X11_125 : am_mok 0 RX11 125 yX1_seedsIn cX1_seedsIn 2 (some .int) 1 594 597 69 595 596 = true := by decide +kernel
theorem mo_X11_129 : am_mok 1 RX11 129 yX11_isSide cX11_isSide 1 (some .boolean) 1 606 608 68 607 0 = true := by decide +kernel
theorem fo_X11_133 : am_fok RX11 133 6 1 2 219 = true := by decide +kernel
theorem fo_X11_136 : am_fok RX11 136 6 2 0 222 = true := by decide +kernel
theorem mo_X11_139 : am_mok 0 RX11 139 yX8_become cX8_become 2 none 1 617 502 70 500 501 = true := by decide +kernel
theorem fo_X11_142 : am_fok RX11 142 8 0 0 175 = true := by decide +kernel
theorem fo_X11_145 : am_fok RX11 145 8 1 0 178 = true := by decide +kernel
theorem fo_X11_148 : am_fok RX11 148 8 2 0 180 = true := by decide +kernel
theorem fo_X11_151 : am_fok RX11 151 8 3 0 183 = true := by decide +kernel
theorem fo_X11_154 : am_fok RX11 154 8 4 0 187 = true := by decide +kernel
theorem fo_X11_157 : am_fok RX11 157 8 5 0 190 = true := by decide +kernel
theorem fo_X11_161 : am_fok RX11 161 8 6 0 192 = true := by decide +kernel
theorem mo_X11_356 : am_mok 0 RX11 356 yX4_keep cX4_keep 3 none 2 684 687 74 685 686 = true := by decide +kernel
theorem fo_X11_199 : am_fok RX11 199 10 2 2 246 = true := by decide +kernel
theorem fo_X11_181 : am_fok RX11 181 10 1 2 243 = true := by decide +kernel
theorem mo_X11_203 : am_mok 0 RX11 203 yX6_follow cX6_follow 3 none 2 712 715 71 713 714 = true := by decide +kernel
theorem fo_X11_164 : am_fok RX11 164 4 0 0 291 = true := by decide +kernel
theorem mo_X11_167 : am_mok 0 RX11 167 yX10_survey cX10_survey 5 (some .int) 2 642 645 72 643 644 = true := by decide +kernel
theorem mo_X11_171 : am_mok 0 RX11 171 yX10_isLong cX10_isLong 2 (some .boolean) 1 676 679 72 677 678 = true := by decide +kernel
theorem fo_X11_174 : am_fok RX11 174 10 0 2 240 = true := by decide +kernel
theorem mo_X11_178 : am_mok 0 RX11 178 yX11_makeMove cX11_makeMove 2 none 1 680 683 68 682 13 = true := by decide +kernel
theorem mo_X11_184 : am_mok 0 RX11 184 yX4_takeBack cX4_takeBack 3 none 1 721 724 74 722 723 = true := by decide +kernel
theorem mo_X11_188 : am_mok 0 RX11 188 yX4_pitToRedo cX4_pitToRedo 1 (some .int) 0 729 732 74 730 731 = true := by decide +kernel
theorem mo_X11_192 : am_mok 0 RX11 192 yX10_carryOut cX10_carryOut 10 (some .boolean) 3 733 653 72 651 652 = true := by decide +kernel
theorem mo_X11_196 : am_mok 0 RX11 196 yX4_keepAgain cX4_keepAgain 3 none 1 734 710 74 708 709 = true := by decide +kernel
theorem mo_X11_210 : am_mok 0 RX11 210 yX11_countOpen cX11_countOpen 1 (some .int) 0 751 754 68 753 16 = true := by decide +kernel
theorem mo_X11_352 : am_mok 0 RX11 352 yX8_countsFor cX8_countsFor 5 (some .int) 4 755 758 70 756 757 = true := by decide +kernel
theorem mo_X11_207 : am_mok 0 RX11 207 yX11_scoreOf cX11_scoreOf 2 (some .int) 1 747 750 68 749 15 = true := by decide +kernel
theorem kc_X11_213 : Cond.constantLong RX11 213 2 ∈ am_gw := am_pl_in (p := 781) (by decide +kernel)
theorem mo_X11_215 : am_mok 0 RX11 215 yX3_boardsUpTo cX3_boardsUpTo 2 (some .long) 1 782 785 73 783 784 = true := by decide +kernel
theorem mo_X11_219 : am_mok 0 RX11 219 yX11_acceptLong cX11_acceptLong 3 (some .long) 1 790 793 68 792 18 = true := by decide +kernel
theorem mo_X11_223 : am_mok 0 RX11 223 yX3_numberOf cX3_numberOf 8 (some .long) 1 798 801 73 799 800 = true := by decide +kernel
theorem mo_X11_227 : am_mok 0 RX11 227 yX3_seedsOfBoard cX3_seedsOfBoard 4 (some .int) 2 808 811 73 809 810 = true := by decide +kernel
theorem kc_X11_231 : Cond.constantLong RX11 231 40000 ∈ am_gw := am_pl_in (p := 821) (by decide +kernel)
theorem mo_X11_233 : am_mok 0 RX11 233 yX3_boardsOf cX3_boardsOf 2 (some .long) 1 822 825 73 823 824 = true := by decide +kernel
theorem mo_X11_236 : am_mok 0 RX11 236 yX1_pitsOfGreaterSide cX1_pitsOfGreaterSide 1 (some .int) 0 826 829 69 827 828 = true := by decide +kernel
theorem kc_X11_239 : Cond.constantLong RX11 239 200000 ∈ am_gw := am_pl_in (p := 831) (by decide +kernel)
theorem mo_X11_241 : am_mok 0 RX11 241 yX9_begin cX9_begin 3 none 1 832 835 75 833 834 = true := by decide +kernel
theorem fo_X11_245 : am_fok RX11 245 9 2 0 383 = true := by decide +kernel
theorem mo_X11_251 : am_mok 0 RX11 251 yX9_layersLeft cX9_layersLeft 1 (some .int) 0 869 872 75 870 871 = true := by decide +kernel
theorem mo_X11_254 : am_mok 0 RX11 254 yX9_solveNextLayer cX9_solveNextLayer 2 none 0 873 876 75 874 875 = true := by decide +kernel
theorem fo_X11_248 : am_fok RX11 248 9 1 0 381 = true := by decide +kernel
theorem mo_X11_257 : am_mok 0 RX11 257 yX9_whyNotSolved cX9_whyNotSolved 2 (some .int) 1 923 926 75 924 925 = true := by decide +kernel
theorem fo_X11_260 : am_fok RX11 260 9 4 2 387 = true := by decide +kernel
theorem fo_X11_263 : am_fok RX11 263 9 5 2 389 = true := by decide +kernel
theorem mo_X11_266 : am_mok 0 RX11 266 yX9_bestEdge cX9_bestEdge 4 (some .int) 1 939 942 75 940 941 = true := by decide +kernel
theorem mo_X11_269 : am_mok 1 RX11 269 yX0_pitOf cX0_pitOf 1 (some .int) 1 952 954 76 953 0 = true := by decide +kernel
theorem fo_X11_272 : am_fok RX11 272 9 0 2 379 = true := by decide +kernel
theorem mo_X11_276 : am_mok 0 RX11 276 yX0_edgeFrom cX0_edgeFrom 4 (some .int) 2 959 962 76 960 961 = true := by decide +kernel
theorem mo_X11_279 : am_mok 0 RX11 279 yX9_reachOf cX9_reachOf 2 (some .int) 1 964 946 75 944 945 = true := by decide +kernel
theorem mo_X11_282 : am_mok 0 RX11 282 yX9_countOf cX9_countOf 4 (some .int) 1 969 972 75 970 971 = true := by decide +kernel
theorem mo_X11_285 : am_mok 0 RX11 285 yX9_firstFrom cX9_firstFrom 4 (some .int) 2 977 980 75 978 979 = true := by decide +kernel
theorem mo_X11_288 : am_mok 0 RX11 288 yX9_has cX9_has 2 (some .boolean) 1 985 930 75 928 929 = true := by decide +kernel
theorem kc_X11_291 : Cond.constant RX11 291 100000 ∈ am_gw := am_pl_in (p := 986) (by decide +kernel)
theorem fo_X11_292 : am_fok RX11 292 9 6 2 391 = true := by decide +kernel
theorem fo_X11_295 : am_fok RX11 295 9 7 2 393 = true := by decide +kernel
theorem mo_X11_298 : am_mok 0 RX11 298 yX9_claimWhatIsSolved cX9_claimWhatIsSolved 1 none 0 991 994 75 992 993 = true := by decide +kernel
theorem fo_X11_301 : am_fok RX11 301 9 3 0 385 = true := by decide +kernel
theorem mo_X11_304 : am_mok 0 RX11 304 yX9_firstWrongClaim cX9_firstWrongClaim 4 (some .int) 0 1000 1003 75 1001 1002 = true := by decide +kernel
theorem mo_X11_307 : am_mok 0 RX11 307 yX2_follow cX2_follow 5 none 2 1013 1016 78 1014 1015 = true := by decide +kernel
theorem fo_X11_310 : am_fok RX11 310 2 1 0 435 = true := by decide +kernel
theorem fo_X11_313 : am_fok RX11 313 2 0 0 433 = true := by decide +kernel
theorem fo_X11_315 : am_fok RX11 315 2 3 2 439 = true := by decide +kernel
theorem fo_X11_317 : am_fok RX11 317 2 2 0 437 = true := by decide +kernel
theorem fo_X11_360 : am_fok RX11 360 5 0 0 460 = true := by decide +kernel
theorem mo_X11_361 : am_mok 0 RX11 361 yX10_openTakingMost cX10_openTakingMost 3 (some .int) 0 1045 1048 72 1046 1047 = true := by decide +kernel
theorem mo_X11_364 : am_mok 0 RX11 364 yX10_openAt cX10_openAt 4 (some .int) 1 1053 1052 72 1050 1051 = true := by decide +kernel
theorem mo_X11_367 : am_mok 0 RX11 367 yX11_bestPitOr cX11_bestPitOr 5 (some .int) 1 1054 1057 68 1056 28 = true := by decide +kernel
theorem fo_X11_370 : am_fok RX11 370 10 3 0 248 = true := by decide +kernel
theorem mo_X11_373 : am_mok 0 RX11 373 yX5_nextBelow cX5_nextBelow 2 (some .int) 1 1058 1061 79 1059 1060 = true := by decide +kernel
theorem mo_X11_323 : am_mok 0 RX11 323 yX11_choosePit cX11_choosePit 2 (some .int) 0 1041 1044 68 1043 27 = true := by decide +kernel
theorem kc_X11_328 : Cond.constantLong RX11 328 31 ∈ am_gw := am_pl_in (p := 1071) (by decide +kernel)
theorem mo_X11_333 : am_mok 0 RX11 333 yX9_digestFrom cX9_digestFrom 6 (some .long) 1 1072 1075 75 1073 1074 = true := by decide +kernel
theorem kc_X11_326 : Cond.constantLong RX11 326 7 ∈ am_gw := am_pl_in (p := 1070) (by decide +kernel)
theorem fo_X12_78 : am_fok RX12 78 12 44 2 1135 = true := by decide +kernel
theorem fo_X12_17 : am_fok RX12 17 12 4 2 1095 = true := by decide +kernel
theorem ff_12_5 : am_fin 12 5 = false := by decide +kernel
theorem fo_X12_96 : am_fok RX12 96 12 5 0 1096 = true := by decide +kernel
theorem ft_12_5 : parseFieldDescriptor (am_fd 12 5) = some .int := by decide +kernel
theorem ff_12_6 : am_fin 12 6 = false := by decide +kernel
theorem fo_X12_99 : am_fok RX12 99 12 6 0 1097 = true := by decide +kernel
theorem ft_12_6 : parseFieldDescriptor (am_fd 12 6) = some .int := by decide +kernel
theorem ff_12_7 : am_fin 12 7 = false := by decide +kernel
theorem fo_X12_102 : am_fok RX12 102 12 7 0 1098 = true := by decide +kernel
theorem ft_12_7 : parseFieldDescriptor (am_fd 12 7) = some .int := by decide +kernel
theorem ff_12_8 : am_fin 12 8 = false := by decide +kernel
theorem fo_X12_105 : am_fok RX12 105 12 8 0 1099 = true := by decide +kernel
theorem ft_12_8 : parseFieldDescriptor (am_fd 12 8) = some .int := by decide +kernel
theorem ff_12_9 : am_fin 12 9 = false := by decide +kernel
theorem fo_X12_108 : am_fok RX12 108 12 9 0 1100 = true := by decide +kernel
theorem ft_12_9 : parseFieldDescriptor (am_fd 12 9) = some .int := by decide +kernel
theorem ff_12_10 : am_fin 12 10 = false := by decide +kernel
theorem fo_X12_111 : am_fok RX12 111 12 10 0 1101 = true := by decide +kernel
theorem ft_12_10 : parseFieldDescriptor (am_fd 12 10) = some .int := by decide +kernel
theorem ff_12_11 : am_fin 12 11 = false := by decide +kernel
theorem fo_X12_114 : am_fok RX12 114 12 11 0 1102 = true := by decide +kernel
theorem ft_12_11 : parseFieldDescriptor (am_fd 12 11) = some .boolean := by decide +kernel
theorem ff_12_12 : am_fin 12 12 = false := by decide +kernel
theorem fo_X12_118 : am_fok RX12 118 12 12 0 1103 = true := by decide +kernel
theorem ft_12_12 : parseFieldDescriptor (am_fd 12 12) = some .int := by decide +kernel
theorem ff_12_37 : am_fin 12 37 = false := by decide +kernel
theorem fo_X12_121 : am_fok RX12 121 12 37 0 1128 = true := by decide +kernel
theorem ft_12_37 : parseFieldDescriptor (am_fd 12 37) = some .int := by decide +kernel
theorem ff_12_38 : am_fin 12 38 = false := by decide +kernel
theorem fo_X12_124 : am_fok RX12 124 12 38 0 1129 = true := by decide +kernel
theorem ft_12_38 : parseFieldDescriptor (am_fd 12 38) = some .int := by decide +kernel
theorem ff_12_21 : am_fin 12 21 = false := by decide +kernel
theorem fo_X12_127 : am_fok RX12 127 12 21 0 1112 = true := by decide +kernel
theorem ft_12_21 : parseFieldDescriptor (am_fd 12 21) = some .boolean := by decide +kernel
theorem ff_12_39 : am_fin 12 39 = false := by decide +kernel
theorem fo_X12_130 : am_fok RX12 130 12 39 0 1130 = true := by decide +kernel
theorem ft_12_39 : parseFieldDescriptor (am_fd 12 39) = some .boolean := by decide +kernel
theorem fo_X12_9 : am_fok RX12 9 12 2 2 1093 = true := by decide +kernel
theorem fo_X12_13 : am_fok RX12 13 12 3 2 1094 = true := by decide +kernel
theorem fo_X12_20 : am_fok RX12 20 12 13 2 1104 = true := by decide +kernel
theorem fo_X12_23 : am_fok RX12 23 12 14 2 1105 = true := by decide +kernel
theorem fo_X12_93 : am_fok RX12 93 12 1 0 1092 = true := by decide +kernel
theorem fo_X12_89 : am_fok RX12 89 12 0 0 1091 = true := by decide +kernel
theorem ff_12_0 : am_fin 12 0 = false := by decide +kernel
theorem ft_12_0 : parseFieldDescriptor (am_fd 12 0) = some .int := by decide +kernel
theorem ff_12_1 : am_fin 12 1 = false := by decide +kernel
theorem ft_12_1 : parseFieldDescriptor (am_fd 12 1) = some .int := by decide +kernel
theorem oi_X12_1 : am_oiok RX12 1 1082 90 91 = true := by decide +kernel
theorem ff_12_2 : am_fin 12 2 = true := by decide +kernel
theorem ft_12_2 : parseFieldDescriptor (am_fd 12 2) = some (am_tyf TX12 2) := by decide +kernel
theorem ff_12_3 : am_fin 12 3 = true := by decide +kernel
theorem ft_12_3 : parseFieldDescriptor (am_fd 12 3) = some (am_tyf TX12 3) := by decide +kernel
theorem ff_12_4 : am_fin 12 4 = true := by decide +kernel
theorem ft_12_4 : parseFieldDescriptor (am_fd 12 4) = some (am_tyf TX12 4) := by decide +kernel
theorem ff_12_13 : am_fin 12 13 = true := by decide +kernel
theorem ft_12_13 : parseFieldDescriptor (am_fd 12 13) = some (am_tyf TX12 13) := by decide +kernel
theorem ff_12_14 : am_fin 12 14 = true := by decide +kernel
theorem ft_12_14 : parseFieldDescriptor (am_fd 12 14) = some (am_tyf TX12 14) := by decide +kernel
theorem ff_12_16 : am_fin 12 16 = true := by decide +kernel
theorem fo_X12_26 : am_fok RX12 26 12 16 2 1107 = true := by decide +kernel
theorem ft_12_16 : parseFieldDescriptor (am_fd 12 16) = some (am_tyf TX12 16) := by decide +kernel
theorem ff_12_20 : am_fin 12 20 = true := by decide +kernel
theorem fo_X12_29 : am_fok RX12 29 12 20 2 1111 = true := by decide +kernel
theorem ft_12_20 : parseFieldDescriptor (am_fd 12 20) = some (am_tyf TX12 20) := by decide +kernel
theorem kc_X12_32 : Cond.constant RX12 32 40000 ∈ am_gw := am_pl_in (p := 1083) (by decide +kernel)
theorem ff_12_25 : am_fin 12 25 = true := by decide +kernel
theorem fo_X12_33 : am_fok RX12 33 12 25 2 1116 = true := by decide +kernel
theorem ft_12_25 : parseFieldDescriptor (am_fd 12 25) = some (am_tyf TX12 25) := by decide +kernel
theorem ff_12_26 : am_fin 12 26 = true := by decide +kernel
theorem fo_X12_36 : am_fok RX12 36 12 26 2 1117 = true := by decide +kernel
theorem ft_12_26 : parseFieldDescriptor (am_fd 12 26) = some (am_tyf TX12 26) := by decide +kernel
theorem ff_12_27 : am_fin 12 27 = true := by decide +kernel
theorem fo_X12_39 : am_fok RX12 39 12 27 2 1118 = true := by decide +kernel
theorem ft_12_27 : parseFieldDescriptor (am_fd 12 27) = some (am_tyf TX12 27) := by decide +kernel
theorem ff_12_28 : am_fin 12 28 = true := by decide +kernel
theorem fo_X12_42 : am_fok RX12 42 12 28 2 1119 = true := by decide +kernel
theorem ft_12_28 : parseFieldDescriptor (am_fd 12 28) = some (am_tyf TX12 28) := by decide +kernel
theorem kc_X12_45 : Cond.constant RX12 45 40001 ∈ am_gw := am_pl_in (p := 1084) (by decide +kernel)
theorem ff_12_29 : am_fin 12 29 = true := by decide +kernel
theorem fo_X12_46 : am_fok RX12 46 12 29 2 1120 = true := by decide +kernel
theorem ft_12_29 : parseFieldDescriptor (am_fd 12 29) = some (am_tyf TX12 29) := by decide +kernel
theorem kc_X12_49 : Cond.constant RX12 49 200064 ∈ am_gw := am_pl_in (p := 1085) (by decide +kernel)
theorem ff_12_30 : am_fin 12 30 = true := by decide +kernel
theorem fo_X12_50 : am_fok RX12 50 12 30 2 1121 = true := by decide +kernel
theorem ft_12_30 : parseFieldDescriptor (am_fd 12 30) = some (am_tyf TX12 30) := by decide +kernel
theorem ff_12_31 : am_fin 12 31 = true := by decide +kernel
theorem fo_X12_53 : am_fok RX12 53 12 31 2 1122 = true := by decide +kernel
theorem ft_12_31 : parseFieldDescriptor (am_fd 12 31) = some (am_tyf TX12 31) := by decide +kernel
theorem ff_12_32 : am_fin 12 32 = true := by decide +kernel
theorem fo_X12_56 : am_fok RX12 56 12 32 2 1123 = true := by decide +kernel
theorem ft_12_32 : parseFieldDescriptor (am_fd 12 32) = some (am_tyf TX12 32) := by decide +kernel
theorem ff_12_33 : am_fin 12 33 = false := by decide +kernel
theorem fo_X12_59 : am_fok RX12 59 12 33 2 1124 = true := by decide +kernel
theorem ft_12_33 : parseFieldDescriptor (am_fd 12 33) = some (am_tyf TX12 33) := by decide +kernel
theorem ff_12_34 : am_fin 12 34 = false := by decide +kernel
theorem fo_X12_62 : am_fok RX12 62 12 34 2 1125 = true := by decide +kernel
theorem ft_12_34 : parseFieldDescriptor (am_fd 12 34) = some (am_tyf TX12 34) := by decide +kernel
theorem ff_12_35 : am_fin 12 35 = true := by decide +kernel
theorem fo_X12_65 : am_fok RX12 65 12 35 2 1126 = true := by decide +kernel
theorem ft_12_35 : parseFieldDescriptor (am_fd 12 35) = some (am_tyf TX12 35) := by decide +kernel
theorem kc_X12_68 : Cond.constant RX12 68 35035 ∈ am_gw := am_pl_in (p := 1086) (by decide +kernel)
theorem ff_12_36 : am_fin 12 36 = true := by decide +kernel
theorem fo_X12_69 : am_fok RX12 69 12 36 2 1127 = true := by decide +kernel
theorem ft_12_36 : parseFieldDescriptor (am_fd 12 36) = some (am_tyf TX12 36) := by decide +kernel
theorem ff_12_41 : am_fin 12 41 = true := by decide +kernel
theorem fo_X12_72 : am_fok RX12 72 12 41 2 1132 = true := by decide +kernel
theorem ft_12_41 : parseFieldDescriptor (am_fd 12 41) = some (am_tyf TX12 41) := by decide +kernel
theorem ff_12_42 : am_fin 12 42 = true := by decide +kernel
theorem fo_X12_75 : am_fok RX12 75 12 42 2 1133 = true := by decide +kernel
theorem ft_12_42 : parseFieldDescriptor (am_fd 12 42) = some (am_tyf TX12 42) := by decide +kernel
theorem ff_12_44 : am_fin 12 44 = true := by decide +kernel
theorem ft_12_44 : parseFieldDescriptor (am_fd 12 44) = some (am_tyf TX12 44) := by decide +kernel
theorem ff_12_45 : am_fin 12 45 = true := by decide +kernel
theorem fo_X12_81 : am_fok RX12 81 12 45 2 1136 = true := by decide +kernel
theorem ft_12_45 : parseFieldDescriptor (am_fd 12 45) = some (am_tyf TX12 45) := by decide +kernel
theorem mo_X12_85 : am_mok 0 RX12 85 yX12_fresh cX12_fresh 7 none 2 1087 1090 81 1089 29 = true := by decide +kernel
theorem mo_X12_133 : am_mok 0 RX12 133 yX12_all cX12_all 1 (some .int) 0 1242 1245 81 1244 31 = true := by decide +kernel
theorem mo_X12_137 : am_mok 0 RX12 137 yX12_sideOf cX12_sideOf 2 (some .int) 1 1325 1328 81 1327 39 = true := by decide +kernel
theorem ff_12_19 : am_fin 12 19 = false := by decide +kernel
theorem fo_X12_145 : am_fok RX12 145 12 19 0 1110 = true := by decide +kernel
theorem ft_12_19 : parseFieldDescriptor (am_fd 12 19) = some .int := by decide +kernel
theorem mo_X12_141 : am_mok 0 RX12 141 yX12_beside cX12_beside 6 (some .int) 3 1337 1340 81 1339 42 = true := by decide +kernel
theorem fo_X12_148 : am_fok RX12 148 12 17 0 1108 = true := by decide +kernel
theorem ff_12_17 : am_fin 12 17 = false := by decide +kernel
theorem ft_12_17 : parseFieldDescriptor (am_fd 12 17) = some .int := by decide +kernel
theorem mo_X12_151 : am_mok 0 RX12 151 yX12_take cX12_take 2 none 1 1345 1348 81 1347 44 = true := by decide +kernel
theorem mo_X12_164 : am_mok 1 RX12 164 yX12_isIn cX12_isIn 6 (some .boolean) 3 1235 1237 81 1236 0 = true := by decide +kernel
theorem ff_12_18 : am_fin 12 18 = false := by decide +kernel
theorem fo_X12_155 : am_fok RX12 155 12 18 0 1109 = true := by decide +kernel
theorem ft_12_18 : parseFieldDescriptor (am_fd 12 18) = some .boolean := by decide +kernel
theorem mo_X12_161 : am_mok 0 RX12 161 yX12_takeColumn cX12_takeColumn 4 none 2 1341 1344 81 1343 43 = true := by decide +kernel
theorem mo_X12_158 : am_mok 0 RX12 158 yX12_sow cX12_sow 5 none 2 1333 1336 81 1335 41 = true := by decide +kernel
theorem mo_X12_172 : am_mok 0 RX12 172 yX12_make cX12_make 5 none 3 1329 1332 81 1331 40 = true := by decide +kernel
theorem mo_X12_176 : am_mok 0 RX12 176 yX12_isFed cX12_isFed 4 (some .boolean) 1 1353 1356 81 1355 46 = true := by decide +kernel
theorem mo_X12_168 : am_mok 0 RX12 168 yX12_isOwn cX12_isOwn 4 (some .boolean) 3 1321 1324 81 1323 38 = true := by decide +kernel
theorem kc_X12_187 : Cond.constantLong RX12 187 2 ∈ am_gw := am_pl_in (p := 1316) (by decide +kernel)
theorem mo_X12_180 : am_mok 0 RX12 180 yX12_there cX12_there 3 (some .int) 0 1258 1261 81 1260 34 = true := by decide +kernel
theorem mo_X12_183 : am_mok 1 RX12 183 yX12_ways cX12_ways 5 (some .long) 2 1424 1426 81 1425 0 = true := by decide +kernel
theorem mo_X12_189 : am_mok 0 RX12 189 yX12_seedsOf cX12_seedsOf 4 (some .int) 1 1275 1278 81 1277 37 = true := by decide +kernel
theorem mo_X12_193 : am_mok 0 RX12 193 yX12_placesTo cX12_placesTo 5 (some .long) 1 1420 1423 81 1422 52 = true := by decide +kernel
theorem mo_X12_209 : am_mok 0 RX12 209 yX12_placeOf cX12_placeOf 9 (some .long) 2 1431 1434 81 1433 53 = true := by decide +kernel
theorem mo_X12_197 : am_mok 0 RX12 197 yX12_layOut cX12_layOut 8 (some .int) 1 1440 1443 81 1442 54 = true := by decide +kernel
theorem mo_X12_201 : am_mok 0 RX12 201 yX12_mayMove cX12_mayMove 7 (some .int) 3 1349 1352 81 1351 45 = true := by decide +kernel
theorem mo_X12_205 : am_mok 0 RX12 205 yX12_counts cX12_counts 6 (some .int) 3 1401 1404 81 1403 51 = true := by decide +kernel
theorem mm_X12_219 : am_mmok RX12 219 1453 674 83 675 true = true := by decide +kernel
theorem mo_X12_213 : am_mok 0 RX12 213 yX12_isEnd cX12_isEnd 2 (some .boolean) 1 1472 1475 81 1474 59 = true := by decide +kernel
theorem kc_X12_218 : Cond.constant RX12 218 (-2147483648) ∈ am_gw := am_pl_in (p := 1480) (by decide +kernel)
theorem fo_X12_225 : am_fok RX12 225 12 23 0 1114 = true := by decide +kernel
theorem ff_12_23 : am_fin 12 23 = false := by decide +kernel
theorem ft_12_23 : parseFieldDescriptor (am_fd 12 23) = some .int := by decide +kernel
theorem ff_12_24 : am_fin 12 24 = false := by decide +kernel
theorem fo_X12_238 : am_fok RX12 238 12 24 0 1115 = true := by decide +kernel
theorem ft_12_24 : parseFieldDescriptor (am_fd 12 24) = some .int := by decide +kernel
theorem mo_X12_234 : am_mok 0 RX12 234 yX12_round cX12_round 7 (some .boolean) 2 1476 1479 81 1478 60 = true := by decide +kernel
theorem mo_X12_231 : am_mok 0 RX12 231 yX12_start cX12_start 3 none 1 1468 1471 81 1470 58 = true := by decide +kernel
theorem mo_X12_228 : am_mok 0 RX12 228 yX12_gather cX12_gather 7 none 2 1464 1467 81 1466 57 = true := by decide +kernel
theorem mo_X12_241 : am_mok 0 RX12 241 yX12_reached cX12_reached 3 (some .int) 2 1501 1504 81 1503 63 = true := by decide +kernel
theorem mo_X12_245 : am_mok 0 RX12 245 yX12_keep cX12_keep 4 none 1 1361 1364 81 1363 48 = true := by decide +kernel
theorem mo_X12_248 : am_mok 0 RX12 248 yX12_forget cX12_forget 1 none 0 1266 1269 81 1268 36 = true := by decide +kernel
theorem fo_X12_251 : am_fok RX12 251 12 40 0 1131 = true := by decide +kernel
theorem fo_X12_254 : am_fok RX12 254 12 43 0 1134 = true := by decide +kernel
theorem ff_12_43 : am_fin 12 43 = false := by decide +kernel
theorem ft_12_43 : parseFieldDescriptor (am_fd 12 43) = some .int := by decide +kernel
theorem mo_X12_257 : am_mok 0 RX12 257 yX12_bestOf cX12_bestOf 4 (some .int) 1 1497 1500 81 1499 62 = true := by decide +kernel
theorem ff_12_40 : am_fin 12 40 = false := by decide +kernel
theorem ft_12_40 : parseFieldDescriptor (am_fd 12 40) = some .int := by decide +kernel
theorem ff_12_15 : am_fin 12 15 = false := by decide +kernel
theorem fo_X12_260 : am_fok RX12 260 12 15 0 1106 = true := by decide +kernel
theorem ft_12_15 : parseFieldDescriptor (am_fd 12 15) = some .int := by decide +kernel
theorem mo_X12_265 : am_mok 0 RX12 265 yX12_no cX12_no 2 (some .int) 1 1238 1241 81 1240 30 = true := by decide +kernel
theorem kc_X12_263 : Cond.constantLong RX12 263 8 ∈ am_gw := am_pl_in (p := 1234) (by decide +kernel)
theorem mo_X12_268 : am_mok 0 RX12 268 yX12_ok cX12_ok 2 (some .int) 1 1246 1249 81 1248 32 = true := by decide +kernel
theorem mo_X12_274 : am_mok 0 RX12 274 yX12_otherGame cX12_otherGame 1 none 0 1262 1265 81 1264 35 = true := by decide +kernel
theorem mo_X12_271 : am_mok 0 RX12 271 yX12_pitWhy cX12_pitWhy 3 (some .int) 2 1254 1257 81 1256 33 = true := by decide +kernel
theorem kc_X12_277 : Cond.constantLong RX12 277 60 ∈ am_gw := am_pl_in (p := 1274) (by decide +kernel)
theorem kc_X12_279 : Cond.constantLong RX12 279 1000 ∈ am_gw := am_pl_in (p := 1283) (by decide +kernel)
theorem kc_X12_281 : Cond.constantLong RX12 281 3 ∈ am_gw := am_pl_in (p := 1292) (by decide +kernel)
theorem kc_X12_283 : Cond.constantLong RX12 283 50 ∈ am_gw := am_pl_in (p := 1297) (by decide +kernel)
theorem kc_X12_285 : Cond.constantLong RX12 285 20 ∈ am_gw := am_pl_in (p := 1302) (by decide +kernel)
theorem kc_X12_287 : Cond.constantLong RX12 287 4 ∈ am_gw := am_pl_in (p := 1307) (by decide +kernel)
theorem mo_X12_289 : am_mok 0 RX12 289 yX12_moveFrom cX12_moveFrom 3 (some .int) 1 1357 1360 81 1359 47 = true := by decide +kernel
theorem mo_X12_292 : am_mok 0 RX12 292 yX12_bring cX12_bring 4 none 1 1369 1372 81 1371 49 = true := by decide +kernel
theorem mo_X12_301 : am_mok 0 RX12 301 yX12_allowed cX12_allowed 1 (some .int) 0 1397 1400 81 1398 1399 = true := by decide +kernel
theorem mo_X12_295 : am_mok 0 RX12 295 yX12_over cX12_over 1 (some .int) 0 1393 1396 81 1394 1395 = true := by decide +kernel
theorem mo_X12_298 : am_mok 0 RX12 298 yX12_scored cX12_scored 2 (some .int) 1 1389 1392 81 1391 50 = true := by decide +kernel
theorem kc_X12_304 : Cond.constantLong RX12 304 12 ∈ am_gw := am_pl_in (p := 1419) (by decide +kernel)
theorem kc_X12_306 : Cond.constantLong RX12 306 (-1) ∈ am_gw := am_pl_in (p := 1439) (by decide +kernel)
theorem kc_X12_308 : Cond.constantLong RX12 308 40000 ∈ am_gw := am_pl_in (p := 1448) (by decide +kernel)
theorem mo_X12_310 : am_mok 0 RX12 310 yX12_sidePits cX12_sidePits 4 (some .int) 1 1449 1452 81 1451 55 = true := by decide +kernel
theorem kc_X12_313 : Cond.constantLong RX12 313 200000 ∈ am_gw := am_pl_in (p := 1454) (by decide +kernel)
theorem ff_12_22 : am_fin 12 22 = false := by decide +kernel
theorem fo_X12_315 : am_fok RX12 315 12 22 0 1113 = true := by decide +kernel
theorem ft_12_22 : parseFieldDescriptor (am_fd 12 22) = some .int := by decide +kernel
theorem mo_X12_320 : am_mok 0 RX12 320 yX12_solveLayer cX12_solveLayer 8 none 0 1460 1463 81 1462 56 = true := by decide +kernel
theorem kc_X12_318 : Cond.constantLong RX12 318 13 ∈ am_gw := am_pl_in (p := 1459) (by decide +kernel)
theorem mo_X12_323 : am_mok 0 RX12 323 yX12_placeWhy cX12_placeWhy 2 (some .int) 1 1485 1488 81 1487 61 = true := by decide +kernel
theorem kc_X12_326 : Cond.constantLong RX12 326 (-60) ∈ am_gw := am_pl_in (p := 1521) (by decide +kernel)
theorem kc_X12_328 : Cond.constantLong RX12 328 100000 ∈ am_gw := am_pl_in (p := 1522) (by decide +kernel)
theorem mo_X12_330 : am_mok 0 RX12 330 yX12_isRight cX12_isRight 10 (some .boolean) 1 1531 1534 81 1533 64 = true := by decide +kernel
theorem mo_X12_333 : am_mok 0 RX12 333 yX12_follow cX12_follow 6 (some .int) 1 1539 1542 81 1541 65 = true := by decide +kernel
theorem mo_X12_336 : am_mok 0 RX12 336 yX12_chosen cX12_chosen 8 (some .int) 0 1559 1562 81 1561 66 = true := by decide +kernel
theorem kc_X12_341 : Cond.constantLong RX12 341 31 ∈ am_gw := am_pl_in (p := 1572) (by decide +kernel)
theorem mo_X12_343 : am_mok 0 RX12 343 yX12_turn cX12_turn 1 (some .int) 0 1573 1408 81 1406 1407 = true := by decide +kernel
theorem mo_X12_346 : am_mok 0 RX12 346 yX12_moves cX12_moves 1 (some .int) 0 1574 1413 81 1411 1412 = true := by decide +kernel
theorem kc_X12_339 : Cond.constantLong RX12 339 7 ∈ am_gw := am_pl_in (p := 1571) (by decide +kernel)
theorem mo_L_13 : am_mok 0 RL 13 yX11_board cX11_board 3 (some .int) 2 565 568 68 566 567 = true := by decide +kernel
theorem mo_L_17 : am_mok 0 RL 17 yX12_board cX12_board 3 (some .int) 2 1230 1233 81 1231 1232 = true := by decide +kernel
theorem mo_L_18 : am_mok 0 RL 18 yX11_lack cX11_lack 5 (some .int) 2 577 580 68 578 579 = true := by decide +kernel
theorem mo_L_21 : am_mok 0 RL 21 yX12_lack cX12_lack 5 (some .int) 2 1250 1253 81 1251 1252 = true := by decide +kernel
theorem mo_L_22 : am_mok 0 RL 22 yX11_seeds cX11_seeds 5 (some .int) 3 590 593 68 591 592 = true := by decide +kernel
theorem mo_L_26 : am_mok 0 RL 26 yX12_seeds cX12_seeds 5 (some .int) 3 1270 1273 81 1271 1272 = true := by decide +kernel
theorem mo_L_27 : am_mok 0 RL 27 yX11_store cX11_store 3 (some .int) 2 602 605 68 603 604 = true := by decide +kernel
theorem mo_L_30 : am_mok 0 RL 30 yX12_store cX12_store 3 (some .int) 2 1279 1282 81 1280 1281 = true := by decide +kernel
theorem mo_L_31 : am_mok 0 RL 31 yX11_side cX11_side 2 (some .int) 1 609 612 68 610 611 = true := by decide +kernel
theorem mo_L_35 : am_mok 0 RL 35 yX12_side cX12_side 2 (some .int) 1 1284 1287 81 1285 1286 = true := by decide +kernel
theorem mo_L_36 : am_mok 0 RL 36 yX11_rule cX11_rule 2 (some .int) 1 613 616 68 614 615 = true := by decide +kernel
theorem mo_L_39 : am_mok 0 RL 39 yX12_rule cX12_rule 2 (some .int) 1 1288 1291 81 1289 1290 = true := by decide +kernel
theorem mo_L_40 : am_mok 0 RL 40 yX11_rounds cX11_rounds 2 (some .int) 1 618 621 68 619 620 = true := by decide +kernel
theorem mo_L_43 : am_mok 0 RL 43 yX12_rounds cX12_rounds 2 (some .int) 1 1293 1296 81 1294 1295 = true := by decide +kernel
theorem mo_L_44 : am_mok 0 RL 44 yX11_takes cX11_takes 3 (some .int) 2 622 625 68 623 624 = true := by decide +kernel
theorem mo_L_47 : am_mok 0 RL 47 yX12_takes cX12_takes 3 (some .int) 2 1298 1301 81 1299 1300 = true := by decide +kernel
theorem mo_L_48 : am_mok 0 RL 48 yX11_least cX11_least 2 (some .int) 1 626 629 68 627 628 = true := by decide +kernel
theorem mo_L_51 : am_mok 0 RL 51 yX12_least cX12_least 2 (some .int) 1 1303 1306 81 1304 1305 = true := by decide +kernel
theorem mo_L_52 : am_mok 0 RL 52 yX11_feeding cX11_feeding 2 (some .int) 1 630 633 68 631 632 = true := by decide +kernel
theorem mo_L_55 : am_mok 0 RL 55 yX12_feeding cX12_feeding 2 (some .int) 1 1308 1311 81 1309 1310 = true := by decide +kernel
theorem mo_L_56 : am_mok 0 RL 56 yX11_ends cX11_ends 2 (some .int) 1 634 637 68 635 636 = true := by decide +kernel
theorem mo_L_59 : am_mok 0 RL 59 yX12_ends cX12_ends 2 (some .int) 1 1312 1315 81 1313 1314 = true := by decide +kernel
theorem mo_L_60 : am_mok 0 RL 60 yX11_move cX11_move 5 (some .int) 2 638 641 68 639 640 = true := by decide +kernel
theorem mo_L_63 : am_mok 0 RL 63 yX12_move cX12_move 5 (some .int) 2 1317 1320 81 1318 1319 = true := by decide +kernel
theorem mo_L_64 : am_mok 0 RL 64 yX11_undo cX11_undo 1 (some .int) 0 717 720 68 718 719 = true := by decide +kernel
theorem mo_L_68 : am_mok 0 RL 68 yX12_undo cX12_undo 1 (some .int) 0 1365 1368 81 1366 1367 = true := by decide +kernel
theorem mo_L_69 : am_mok 0 RL 69 yX11_redo cX11_redo 2 (some .int) 0 725 728 68 726 727 = true := by decide +kernel
theorem mo_L_72 : am_mok 0 RL 72 yX12_redo cX12_redo 1 (some .int) 0 1373 1376 81 1374 1375 = true := by decide +kernel
theorem mo_L_73 : am_mok 0 RL 73 yX11_pit cX11_pit 4 (some .int) 2 735 738 68 736 737 = true := by decide +kernel
theorem mo_L_76 : am_mok 0 RL 76 yX12_pit cX12_pit 4 (some .int) 2 1377 1380 81 1378 1379 = true := by decide +kernel
theorem mo_L_77 : am_mok 0 RL 77 yX11_stored cX11_stored 2 (some .int) 1 739 742 68 740 741 = true := by decide +kernel
theorem mo_L_80 : am_mok 0 RL 80 yX12_stored cX12_stored 2 (some .int) 1 1381 1384 81 1382 1383 = true := by decide +kernel
theorem mo_L_81 : am_mok 0 RL 81 yX11_score cX11_score 2 (some .int) 1 743 746 68 744 745 = true := by decide +kernel
theorem mo_L_84 : am_mok 0 RL 84 yX12_score cX12_score 2 (some .int) 1 1385 1388 81 1386 1387 = true := by decide +kernel
theorem mo_L_85 : am_mok 0 RL 85 yX11_turn cX11_turn 1 (some .int) 0 761 764 68 762 763 = true := by decide +kernel
theorem mo_L_88 : am_mok 0 RL 88 yX12_turn cX12_turn 1 (some .int) 0 1405 1408 81 1406 1407 = true := by decide +kernel
theorem mo_L_89 : am_mok 0 RL 89 yX11_over cX11_over 1 (some .int) 0 765 768 68 766 767 = true := by decide +kernel
theorem mo_L_92 : am_mok 0 RL 92 yX12_over cX12_over 1 (some .int) 0 1409 1396 81 1394 1395 = true := by decide +kernel
theorem mo_L_93 : am_mok 0 RL 93 yX11_moves cX11_moves 1 (some .int) 0 769 772 68 770 771 = true := by decide +kernel
theorem mo_L_96 : am_mok 0 RL 96 yX12_moves cX12_moves 1 (some .int) 0 1410 1413 81 1411 1412 = true := by decide +kernel
theorem mo_L_97 : am_mok 0 RL 97 yX11_allowed cX11_allowed 1 (some .int) 0 773 776 68 774 775 = true := by decide +kernel
theorem mo_L_100 : am_mok 0 RL 100 yX12_allowed cX12_allowed 1 (some .int) 0 1414 1400 81 1398 1399 = true := by decide +kernel
theorem mo_L_101 : am_mok 0 RL 101 yX11_positions cX11_positions 2 (some .long) 1 777 780 68 778 779 = true := by decide +kernel
theorem mo_L_105 : am_mok 0 RL 105 yX12_positions cX12_positions 2 (some .long) 1 1415 1418 81 1416 1417 = true := by decide +kernel
theorem mo_L_106 : am_mok 0 RL 106 yX11_place cX11_place 1 (some .long) 0 794 797 68 795 796 = true := by decide +kernel
theorem mo_L_110 : am_mok 0 RL 110 yX12_place cX12_place 1 (some .long) 0 1427 1430 81 1428 1429 = true := by decide +kernel
theorem kc_L_111 : Cond.constantLong RL 111 4294967295 ∈ am_gw := am_pl_in (p := 1575) (by decide +kernel)
theorem mo_L_113 : am_mok 0 RL 113 yX11_ofPlace cX11_ofPlace 4 (some .int) 2 804 807 68 805 806 = true := by decide +kernel
theorem mo_L_117 : am_mok 0 RL 117 yX12_ofPlace cX12_ofPlace 7 (some .int) 2 1435 1438 81 1436 1437 = true := by decide +kernel
theorem mo_L_118 : am_mok 0 RL 118 yX11_solve cX11_solve 2 (some .int) 1 817 820 68 818 819 = true := by decide +kernel
theorem mo_L_121 : am_mok 0 RL 121 yX12_solve cX12_solve 3 (some .int) 1 1444 1447 81 1445 1446 = true := by decide +kernel
theorem mo_L_122 : am_mok 0 RL 122 yX11_goOn cX11_goOn 3 (some .int) 1 865 868 68 866 867 = true := by decide +kernel
theorem mo_L_125 : am_mok 0 RL 125 yX12_goOn cX12_goOn 3 (some .int) 1 1455 1458 81 1456 1457 = true := by decide +kernel
theorem mo_L_126 : am_mok 0 RL 126 yX11_value cX11_value 3 (some .int) 1 919 922 68 920 921 = true := by decide +kernel
theorem mo_L_129 : am_mok 0 RL 129 yX12_value cX12_value 3 (some .int) 1 1481 1484 81 1482 1483 = true := by decide +kernel
theorem mo_L_130 : am_mok 0 RL 130 yX11_rank cX11_rank 3 (some .int) 1 931 934 68 932 933 = true := by decide +kernel
theorem mo_L_133 : am_mok 0 RL 133 yX12_rank cX12_rank 3 (some .int) 1 1489 1492 81 1490 1491 = true := by decide +kernel
theorem mo_L_134 : am_mok 0 RL 134 yX11_best cX11_best 4 (some .int) 1 935 938 68 936 937 = true := by decide +kernel
theorem mo_L_137 : am_mok 0 RL 137 yX12_best cX12_best 4 (some .int) 1 1493 1496 81 1494 1495 = true := by decide +kernel
theorem mo_L_138 : am_mok 0 RL 138 yX11_reaches cX11_reaches 5 (some .int) 2 955 958 68 956 957 = true := by decide +kernel
theorem mo_L_141 : am_mok 0 RL 141 yX12_reaches cX12_reaches 5 (some .int) 2 1505 1508 81 1506 1507 = true := by decide +kernel
theorem mo_L_142 : am_mok 0 RL 142 yX11_count cX11_count 2 (some .int) 1 965 968 68 966 967 = true := by decide +kernel
theorem mo_L_145 : am_mok 0 RL 145 yX12_count cX12_count 4 (some .int) 1 1509 1512 81 1510 1511 = true := by decide +kernel
theorem mo_L_146 : am_mok 0 RL 146 yX11_find cX11_find 4 (some .int) 2 973 976 68 974 975 = true := by decide +kernel
theorem mo_L_149 : am_mok 0 RL 149 yX12_find cX12_find 4 (some .int) 2 1513 1516 81 1514 1515 = true := by decide +kernel
theorem mo_L_150 : am_mok 0 RL 150 yX11_claim cX11_claim 4 (some .int) 3 981 984 68 982 983 = true := by decide +kernel
theorem mo_L_153 : am_mok 0 RL 153 yX12_claim cX12_claim 4 (some .int) 3 1517 1520 81 1518 1519 = true := by decide +kernel
theorem mo_L_154 : am_mok 0 RL 154 yX11_copy cX11_copy 1 (some .int) 0 987 990 68 988 989 = true := by decide +kernel
theorem mo_L_157 : am_mok 0 RL 157 yX12_copy cX12_copy 2 (some .int) 0 1523 1526 81 1524 1525 = true := by decide +kernel
theorem mo_L_158 : am_mok 0 RL 158 yX11_check cX11_check 1 (some .int) 0 996 999 68 997 998 = true := by decide +kernel
theorem mo_L_161 : am_mok 0 RL 161 yX12_check cX12_check 3 (some .int) 0 1527 1530 81 1528 1529 = true := by decide +kernel
theorem mo_L_162 : am_mok 0 RL 162 yX11_line cX11_line 3 (some .int) 1 1009 1012 68 1010 1011 = true := by decide +kernel
theorem mo_L_165 : am_mok 0 RL 165 yX12_line cX12_line 3 (some .int) 1 1535 1538 81 1536 1537 = true := by decide +kernel
theorem mo_L_166 : am_mok 0 RL 166 yX11_lineAt cX11_lineAt 2 (some .int) 1 1025 1028 68 1026 1027 = true := by decide +kernel
theorem mo_L_169 : am_mok 0 RL 169 yX12_lineAt cX12_lineAt 2 (some .int) 1 1543 1546 81 1544 1545 = true := by decide +kernel
theorem mo_L_170 : am_mok 0 RL 170 yX11_ring cX11_ring 1 (some .int) 0 1029 1032 68 1030 1031 = true := by decide +kernel
theorem mo_L_173 : am_mok 0 RL 173 yX12_ring cX12_ring 1 (some .int) 0 1547 1550 81 1548 1549 = true := by decide +kernel
theorem mo_L_174 : am_mok 0 RL 174 yX11_player cX11_player 5 (some .int) 3 1033 1036 68 1034 1035 = true := by decide +kernel
theorem mo_L_178 : am_mok 0 RL 178 yX12_player cX12_player 5 (some .int) 3 1551 1554 81 1552 1553 = true := by decide +kernel
theorem mo_L_179 : am_mok 0 RL 179 yX11_play cX11_play 3 (some .int) 1 1037 1040 68 1038 1039 = true := by decide +kernel
theorem mo_L_182 : am_mok 0 RL 182 yX12_play cX12_play 3 (some .int) 1 1555 1558 81 1556 1557 = true := by decide +kernel
theorem mo_L_183 : am_mok 0 RL 183 yX11_status cX11_status 1 (some .int) 0 1062 1065 68 1063 1064 = true := by decide +kernel
theorem mo_L_186 : am_mok 0 RL 186 yX12_status cX12_status 1 (some .int) 0 1563 1566 81 1564 1565 = true := by decide +kernel
theorem mo_L_187 : am_mok 0 RL 187 yX11_digest cX11_digest 4 (some .long) 0 1066 1069 68 1067 1068 = true := by decide +kernel
theorem mo_L_190 : am_mok 0 RL 190 yX12_digest cX12_digest 4 (some .long) 0 1567 1570 81 1568 1569 = true := by decide +kernel
theorem nw_L_7 : am_nok RL 7 11 10 84 85 68 = true := by decide +kernel
theorem mo_L_9 : am_mok 2 RL 9 yX11_init cX11_init 1 none 0 86 88 68 87 0 = true := by decide +kernel
theorem nw_L_10 : am_nok RL 10 12 46 1077 1078 81 = true := by decide +kernel
theorem mo_L_12 : am_mok 2 RL 12 yX12_init cX12_init 1 none 0 1079 1081 81 1080 0 = true := by decide +kernel
