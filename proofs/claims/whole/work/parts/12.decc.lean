theorem dX9_init_0 : decode cX9_init 0 = .ok (.aload_n 0, 1) := by decide +kernel
theorem dX9_init_1 : decode cX9_init 1 = .ok (.invokespecial 1, 3) := by decide +kernel
theorem dX9_init_4 : decode cX9_init 4 = .ok (.aload_n 0, 1) := by decide +kernel
theorem dX9_init_5 : decode cX9_init 5 = .ok (.sipush 916, 3) := by decide +kernel
theorem dX9_init_8 : decode cX9_init 8 = .ok (.newarray .int, 2) := by decide +kernel
theorem dX9_init_10 : decode cX9_init 10 = .ok (.putfield 7, 3) := by decide +kernel
theorem dX9_init_13 : decode cX9_init 13 = .ok (.aload_n 0, 1) := by decide +kernel
theorem dX9_init_14 : decode cX9_init 14 = .ok (.sipush 4580, 3) := by decide +kernel
theorem dX9_init_17 : decode cX9_init 17 = .ok (.newarray .int, 2) := by decide +kernel
theorem dX9_init_19 : decode cX9_init 19 = .ok (.putfield 13, 3) := by decide +kernel
theorem dX9_init_22 : decode cX9_init 22 = .ok (.aload_n 0, 1) := by decide +kernel
theorem dX9_init_23 : decode cX9_init 23 = .ok (.sipush 1832, 3) := by decide +kernel
theorem dX9_init_26 : decode cX9_init 26 = .ok (.newarray .int, 2) := by decide +kernel
theorem dX9_init_28 : decode cX9_init 28 = .ok (.putfield 16, 3) := by decide +kernel
theorem dX9_init_31 : decode cX9_init 31 = .ok (.aload_n 0, 1) := by decide +kernel
theorem dX9_init_32 : decode cX9_init 32 = .ok (.iconst 2, 1) := by decide +kernel
theorem dX9_init_33 : decode cX9_init 33 = .ok (.newarray .boolean, 2) := by decide +kernel
theorem dX9_init_35 : decode cX9_init 35 = .ok (.putfield 19, 3) := by decide +kernel
theorem dX9_init_38 : decode cX9_init 38 = .ok (.aload_n 0, 1) := by decide +kernel
theorem dX9_init_39 : decode cX9_init 39 = .ok (.bipush 80, 2) := by decide +kernel
theorem dX9_init_41 : decode cX9_init 41 = .ok (.newarray .int, 2) := by decide +kernel
theorem dX9_init_43 : decode cX9_init 43 = .ok (.putfield 23, 3) := by decide +kernel
theorem dX9_init_46 : decode cX9_init 46 = .ok (.aload_n 0, 1) := by decide +kernel
theorem dX9_init_47 : decode cX9_init 47 = .ok (.bipush 9, 2) := by decide +kernel
theorem dX9_init_49 : decode cX9_init 49 = .ok (.newarray .int, 2) := by decide +kernel
theorem dX9_init_51 : decode cX9_init 51 = .ok (.dup, 1) := by decide +kernel
theorem dX9_init_52 : decode cX9_init 52 = .ok (.iconst 0, 1) := by decide +kernel
theorem dX9_init_53 : decode cX9_init 53 = .ok (.bipush 33, 2) := by decide +kernel
theorem dX9_init_55 : decode cX9_init 55 = .ok (.iastore, 1) := by decide +kernel
theorem dX9_init_56 : decode cX9_init 56 = .ok (.dup, 1) := by decide +kernel
theorem dX9_init_57 : decode cX9_init 57 = .ok (.iconst 1, 1) := by decide +kernel
theorem dX9_init_58 : decode cX9_init 58 = .ok (.bipush 45, 2) := by decide +kernel
theorem dX9_init_60 : decode cX9_init 60 = .ok (.iastore, 1) := by decide +kernel
theorem dX9_init_61 : decode cX9_init 61 = .ok (.dup, 1) := by decide +kernel
theorem dX9_init_62 : decode cX9_init 62 = .ok (.iconst 2, 1) := by decide +kernel
theorem dX9_init_63 : decode cX9_init 63 = .ok (.bipush 78, 2) := by decide +kernel
theorem dX9_init_65 : decode cX9_init 65 = .ok (.iastore, 1) := by decide +kernel
theorem dX9_init_66 : decode cX9_init 66 = .ok (.dup, 1) := by decide +kernel
theorem dX9_init_67 : decode cX9_init 67 = .ok (.iconst 3, 1) := by decide +kernel
theorem dX9_init_68 : decode cX9_init 68 = .ok (.bipush 95, 2) := by decide +kernel
theorem dX9_init_70 : decode cX9_init 70 = .ok (.iastore, 1) := by decide +kernel
theorem dX9_init_71 : decode cX9_init 71 = .ok (.dup, 1) := by decide +kernel
theorem dX9_init_72 : decode cX9_init 72 = .ok (.iconst 4, 1) := by decide +kernel
theorem dX9_init_73 : decode cX9_init 73 = .ok (.sipush 190, 3) := by decide +kernel
theorem dX9_init_76 : decode cX9_init 76 = .ok (.iastore, 1) := by decide +kernel
theorem dX9_init_77 : decode cX9_init 77 = .ok (.dup, 1) := by decide +kernel
theorem dX9_init_78 : decode cX9_init 78 = .ok (.iconst 5, 1) := by decide +kernel
theorem dX9_init_79 : decode cX9_init 79 = .ok (.sipush 380, 3) := by decide +kernel
theorem dX9_init_82 : decode cX9_init 82 = .ok (.iastore, 1) := by decide +kernel
theorem dX9_init_83 : decode cX9_init 83 = .ok (.dup, 1) := by decide +kernel
theorem dX9_init_84 : decode cX9_init 84 = .ok (.bipush 6, 2) := by decide +kernel
theorem dX9_init_86 : decode cX9_init 86 = .ok (.bipush 48, 2) := by decide +kernel
theorem dX9_init_88 : decode cX9_init 88 = .ok (.iastore, 1) := by decide +kernel
theorem dX9_init_89 : decode cX9_init 89 = .ok (.dup, 1) := by decide +kernel
theorem dX9_init_90 : decode cX9_init 90 = .ok (.bipush 7, 2) := by decide +kernel
theorem dX9_init_92 : decode cX9_init 92 = .ok (.iconst 0, 1) := by decide +kernel
theorem dX9_init_93 : decode cX9_init 93 = .ok (.iastore, 1) := by decide +kernel
theorem dX9_init_94 : decode cX9_init 94 = .ok (.dup, 1) := by decide +kernel
theorem dX9_init_95 : decode cX9_init 95 = .ok (.bipush 8, 2) := by decide +kernel
theorem dX9_init_97 : decode cX9_init 97 = .ok (.iconst 0, 1) := by decide +kernel
theorem dX9_init_98 : decode cX9_init 98 = .ok (.iastore, 1) := by decide +kernel
theorem dX9_init_99 : decode cX9_init 99 = .ok (.putfield 26, 3) := by decide +kernel
theorem dX9_init_102 : decode cX9_init 102 = .ok (.aload_n 0, 1) := by decide +kernel
theorem dX9_init_103 : decode cX9_init 103 = .ok (.iconst 3, 1) := by decide +kernel
theorem dX9_init_104 : decode cX9_init 104 = .ok (.newarray .int, 2) := by decide +kernel
theorem dX9_init_106 : decode cX9_init 106 = .ok (.dup, 1) := by decide +kernel
theorem dX9_init_107 : decode cX9_init 107 = .ok (.iconst 0, 1) := by decide +kernel
theorem dX9_init_108 : decode cX9_init 108 = .ok (.bipush 10, 2) := by decide +kernel
theorem dX9_init_110 : decode cX9_init 110 = .ok (.iastore, 1) := by decide +kernel
theorem dX9_init_111 : decode cX9_init 111 = .ok (.dup, 1) := by decide +kernel
theorem dX9_init_112 : decode cX9_init 112 = .ok (.iconst 1, 1) := by decide +kernel
theorem dX9_init_113 : decode cX9_init 113 = .ok (.bipush 7, 2) := by decide +kernel
theorem dX9_init_115 : decode cX9_init 115 = .ok (.iastore, 1) := by decide +kernel
theorem dX9_init_116 : decode cX9_init 116 = .ok (.dup, 1) := by decide +kernel
theorem dX9_init_117 : decode cX9_init 117 = .ok (.iconst 2, 1) := by decide +kernel
theorem dX9_init_118 : decode cX9_init 118 = .ok (.bipush 10, 2) := by decide +kernel
theorem dX9_init_120 : decode cX9_init 120 = .ok (.iastore, 1) := by decide +kernel
theorem dX9_init_121 : decode cX9_init 121 = .ok (.putfield 29, 3) := by decide +kernel
theorem dX9_init_124 : decode cX9_init 124 = .ok (.aload_n 0, 1) := by decide +kernel
theorem dX9_init_125 : decode cX9_init 125 = .ok (.iconst 4, 1) := by decide +kernel
theorem dX9_init_126 : decode cX9_init 126 = .ok (.newarray .int, 2) := by decide +kernel
theorem dX9_init_128 : decode cX9_init 128 = .ok (.putfield 32, 3) := by decide +kernel
theorem dX9_init_131 : decode cX9_init 131 = .ok (.aload_n 0, 1) := by decide +kernel
theorem dX9_init_132 : decode cX9_init 132 = .ok (.iconst 4, 1) := by decide +kernel
theorem dX9_init_133 : decode cX9_init 133 = .ok (.newarray .int, 2) := by decide +kernel
theorem dX9_init_135 : decode cX9_init 135 = .ok (.putfield 35, 3) := by decide +kernel
theorem dX9_init_138 : decode cX9_init 138 = .ok (.return_, 1) := by decide +kernel
theorem dX9_in_0 : decode cX9_in 0 = .ok (.iload_n 0, 1) := by decide +kernel
theorem dX9_in_1 : decode cX9_in 1 = .ok (.iload_n 1, 1) := by decide +kernel
theorem dX9_in_2 : decode cX9_in 2 = .ok (.if_icmp .lt 12, 3) := by decide +kernel
theorem dX9_in_5 : decode cX9_in 5 = .ok (.iload_n 0, 1) := by decide +kernel
theorem dX9_in_6 : decode cX9_in 6 = .ok (.iload_n 2, 1) := by decide +kernel
theorem dX9_in_7 : decode cX9_in 7 = .ok (.if_icmp .gt 7, 3) := by decide +kernel
theorem dX9_in_10 : decode cX9_in 10 = .ok (.iconst 1, 1) := by decide +kernel
theorem dX9_in_11 : decode cX9_in 11 = .ok (.goto 4, 3) := by decide +kernel
theorem dX9_in_14 : decode cX9_in 14 = .ok (.iconst 0, 1) := by decide +kernel
theorem dX9_in_15 : decode cX9_in 15 = .ok (.ireturn, 1) := by decide +kernel
theorem dX9_ones_0 : decode cX9_ones 0 = .ok (.iconst 0, 1) := by decide +kernel
theorem dX9_ones_1 : decode cX9_ones 1 = .ok (.istore_n 1, 1) := by decide +kernel
theorem dX9_ones_2 : decode cX9_ones 2 = .ok (.iload_n 0, 1) := by decide +kernel
theorem dX9_ones_3 : decode cX9_ones 3 = .ok (.istore_n 2, 1) := by decide +kernel
theorem dX9_ones_4 : decode cX9_ones 4 = .ok (.iload_n 2, 1) := by decide +kernel
theorem dX9_ones_5 : decode cX9_ones 5 = .ok (.ifCond .eq 15, 3) := by decide +kernel
theorem dX9_ones_8 : decode cX9_ones 8 = .ok (.iinc 1 1, 3) := by decide +kernel
theorem dX9_ones_11 : decode cX9_ones 11 = .ok (.iload_n 2, 1) := by decide +kernel
theorem dX9_ones_12 : decode cX9_ones 12 = .ok (.iload_n 2, 1) := by decide +kernel
theorem dX9_ones_13 : decode cX9_ones 13 = .ok (.iconst 1, 1) := by decide +kernel
theorem dX9_ones_14 : decode cX9_ones 14 = .ok (.isub, 1) := by decide +kernel
theorem dX9_ones_15 : decode cX9_ones 15 = .ok (.iand, 1) := by decide +kernel
theorem dX9_ones_16 : decode cX9_ones 16 = .ok (.istore_n 2, 1) := by decide +kernel
theorem dX9_ones_17 : decode cX9_ones 17 = .ok (.goto (-13), 3) := by decide +kernel
theorem dX9_ones_20 : decode cX9_ones 20 = .ok (.iload_n 1, 1) := by decide +kernel
theorem dX9_ones_21 : decode cX9_ones 21 = .ok (.ireturn, 1) := by decide +kernel
theorem dX9_record_0 : decode cX9_record 0 = .ok (.aload_n 0, 1) := by decide +kernel
theorem dX9_record_1 : decode cX9_record 1 = .ok (.getfield 38, 3) := by decide +kernel
theorem dX9_record_4 : decode cX9_record 4 = .ok (.iconst 5, 1) := by decide +kernel
theorem dX9_record_5 : decode cX9_record 5 = .ok (.if_icmp .ne 44, 3) := by decide +kernel
theorem dX9_record_8 : decode cX9_record 8 = .ok (.iconst 0, 1) := by decide +kernel
theorem dX9_record_9 : decode cX9_record 9 = .ok (.istore_n 1, 1) := by decide +kernel
theorem dX9_record_10 : decode cX9_record 10 = .ok (.iload_n 1, 1) := by decide +kernel
theorem dX9_record_11 : decode cX9_record 11 = .ok (.sipush 3664, 3) := by decide +kernel
theorem dX9_record_14 : decode cX9_record 14 = .ok (.if_icmp .ge 25, 3) := by decide +kernel
theorem dX9_record_17 : decode cX9_record 17 = .ok (.aload_n 0, 1) := by decide +kernel
theorem dX9_record_18 : decode cX9_record 18 = .ok (.getfield 13, 3) := by decide +kernel
theorem dX9_record_21 : decode cX9_record 21 = .ok (.iload_n 1, 1) := by decide +kernel
theorem dX9_record_22 : decode cX9_record 22 = .ok (.aload_n 0, 1) := by decide +kernel
theorem dX9_record_23 : decode cX9_record 23 = .ok (.getfield 13, 3) := by decide +kernel
theorem dX9_record_26 : decode cX9_record 26 = .ok (.iload_n 1, 1) := by decide +kernel
theorem dX9_record_27 : decode cX9_record 27 = .ok (.sipush 916, 3) := by decide +kernel
theorem dX9_record_30 : decode cX9_record 30 = .ok (.iadd, 1) := by decide +kernel
theorem dX9_record_31 : decode cX9_record 31 = .ok (.iaload, 1) := by decide +kernel
theorem dX9_record_32 : decode cX9_record 32 = .ok (.iastore, 1) := by decide +kernel
theorem dX9_record_33 : decode cX9_record 33 = .ok (.iinc 1 1, 3) := by decide +kernel
theorem dX9_record_36 : decode cX9_record 36 = .ok (.goto (-26), 3) := by decide +kernel
theorem dX9_record_39 : decode cX9_record 39 = .ok (.aload_n 0, 1) := by decide +kernel
theorem dX9_record_40 : decode cX9_record 40 = .ok (.dup, 1) := by decide +kernel
theorem dX9_record_41 : decode cX9_record 41 = .ok (.getfield 38, 3) := by decide +kernel
theorem dX9_record_44 : decode cX9_record 44 = .ok (.iconst 1, 1) := by decide +kernel
theorem dX9_record_45 : decode cX9_record 45 = .ok (.isub, 1) := by decide +kernel
theorem dX9_record_46 : decode cX9_record 46 = .ok (.putfield 38, 3) := by decide +kernel
theorem dX9_record_49 : decode cX9_record 49 = .ok (.iconst 0, 1) := by decide +kernel
theorem dX9_record_50 : decode cX9_record 50 = .ok (.istore_n 1, 1) := by decide +kernel
theorem dX9_record_51 : decode cX9_record 51 = .ok (.iload_n 1, 1) := by decide +kernel
theorem dX9_record_52 : decode cX9_record 52 = .ok (.sipush 916, 3) := by decide +kernel
theorem dX9_record_55 : decode cX9_record 55 = .ok (.if_icmp .ge 30, 3) := by decide +kernel
theorem dX9_record_58 : decode cX9_record 58 = .ok (.aload_n 0, 1) := by decide +kernel
theorem dX9_record_59 : decode cX9_record 59 = .ok (.getfield 13, 3) := by decide +kernel
theorem dX9_record_62 : decode cX9_record 62 = .ok (.sipush 916, 3) := by decide +kernel
theorem dX9_record_65 : decode cX9_record 65 = .ok (.aload_n 0, 1) := by decide +kernel
theorem dX9_record_66 : decode cX9_record 66 = .ok (.getfield 38, 3) := by decide +kernel
theorem dX9_record_69 : decode cX9_record 69 = .ok (.imul, 1) := by decide +kernel
theorem dX9_record_70 : decode cX9_record 70 = .ok (.iload_n 1, 1) := by decide +kernel
theorem dX9_record_71 : decode cX9_record 71 = .ok (.iadd, 1) := by decide +kernel
theorem dX9_record_72 : decode cX9_record 72 = .ok (.aload_n 0, 1) := by decide +kernel
theorem dX9_record_73 : decode cX9_record 73 = .ok (.getfield 7, 3) := by decide +kernel
theorem dX9_record_76 : decode cX9_record 76 = .ok (.iload_n 1, 1) := by decide +kernel
theorem dX9_record_77 : decode cX9_record 77 = .ok (.iaload, 1) := by decide +kernel
theorem dX9_record_78 : decode cX9_record 78 = .ok (.iastore, 1) := by decide +kernel
theorem dX9_record_79 : decode cX9_record 79 = .ok (.iinc 1 1, 3) := by decide +kernel
theorem dX9_record_82 : decode cX9_record 82 = .ok (.goto (-31), 3) := by decide +kernel
theorem dX9_record_85 : decode cX9_record 85 = .ok (.aload_n 0, 1) := by decide +kernel
theorem dX9_record_86 : decode cX9_record 86 = .ok (.dup, 1) := by decide +kernel
theorem dX9_record_87 : decode cX9_record 87 = .ok (.getfield 38, 3) := by decide +kernel
theorem dX9_record_90 : decode cX9_record 90 = .ok (.iconst 1, 1) := by decide +kernel
theorem dX9_record_91 : decode cX9_record 91 = .ok (.iadd, 1) := by decide +kernel
theorem dX9_record_92 : decode cX9_record 92 = .ok (.putfield 38, 3) := by decide +kernel
theorem dX9_record_95 : decode cX9_record 95 = .ok (.return_, 1) := by decide +kernel
theorem dX9_isOne_0 : decode cX9_isOne 0 = .ok (.iload_n 2, 1) := by decide +kernel
theorem dX9_isOne_1 : decode cX9_isOne 1 = .ok (.iconst 0, 1) := by decide +kernel
theorem dX9_isOne_2 : decode cX9_isOne 2 = .ok (.aload_n 0, 1) := by decide +kernel
theorem dX9_isOne_3 : decode cX9_isOne 3 = .ok (.getfield 7, 3) := by decide +kernel
theorem dX9_isOne_6 : decode cX9_isOne 6 = .ok (.iload_n 1, 1) := by decide +kernel
theorem dX9_isOne_7 : decode cX9_isOne 7 = .ok (.iaload, 1) := by decide +kernel
theorem dX9_isOne_8 : decode cX9_isOne 8 = .ok (.iconst 1, 1) := by decide +kernel
theorem dX9_isOne_9 : decode cX9_isOne 9 = .ok (.isub, 1) := by decide +kernel
theorem dX9_isOne_10 : decode cX9_isOne 10 = .ok (.invokestatic 42, 3) := by decide +kernel
theorem dX9_isOne_13 : decode cX9_isOne 13 = .ok (.ireturn, 1) := by decide +kernel
theorem dX9_tracksOf_0 : decode cX9_tracksOf 0 = .ok (.iload_n 0, 1) := by decide +kernel
theorem dX9_tracksOf_1 : decode cX9_tracksOf 1 = .ok (.ifCond .ne 7, 3) := by decide +kernel
theorem dX9_tracksOf_4 : decode cX9_tracksOf 4 = .ok (.iconst 1, 1) := by decide +kernel
theorem dX9_tracksOf_5 : decode cX9_tracksOf 5 = .ok (.goto 13, 3) := by decide +kernel
theorem dX9_tracksOf_8 : decode cX9_tracksOf 8 = .ok (.iload_n 0, 1) := by decide +kernel
theorem dX9_tracksOf_9 : decode cX9_tracksOf 9 = .ok (.iconst 1, 1) := by decide +kernel
theorem dX9_tracksOf_10 : decode cX9_tracksOf 10 = .ok (.if_icmp .ne 7, 3) := by decide +kernel
theorem dX9_tracksOf_13 : decode cX9_tracksOf 13 = .ok (.iconst 2, 1) := by decide +kernel
theorem dX9_tracksOf_14 : decode cX9_tracksOf 14 = .ok (.goto 4, 3) := by decide +kernel
theorem dX9_tracksOf_17 : decode cX9_tracksOf 17 = .ok (.iconst 4, 1) := by decide +kernel
theorem dX9_tracksOf_18 : decode cX9_tracksOf 18 = .ok (.ireturn, 1) := by decide +kernel
theorem dX9_stripsOf_0 : decode cX9_stripsOf 0 = .ok (.iload_n 0, 1) := by decide +kernel
theorem dX9_stripsOf_1 : decode cX9_stripsOf 1 = .ok (.ifCond .ne 8, 3) := by decide +kernel
theorem dX9_stripsOf_4 : decode cX9_stripsOf 4 = .ok (.bipush 15, 2) := by decide +kernel
theorem dX9_stripsOf_6 : decode cX9_stripsOf 6 = .ok (.goto 19, 3) := by decide +kernel
theorem dX9_stripsOf_9 : decode cX9_stripsOf 9 = .ok (.iload_n 0, 1) := by decide +kernel
theorem dX9_stripsOf_10 : decode cX9_stripsOf 10 = .ok (.iconst 1, 1) := by decide +kernel
theorem dX9_stripsOf_11 : decode cX9_stripsOf 11 = .ok (.if_icmp .ne 11, 3) := by decide +kernel
theorem dX9_stripsOf_14 : decode cX9_stripsOf 14 = .ok (.iconst 3, 1) := by decide +kernel
theorem dX9_stripsOf_15 : decode cX9_stripsOf 15 = .ok (.iconst 2, 1) := by decide +kernel
theorem dX9_stripsOf_16 : decode cX9_stripsOf 16 = .ok (.iload_n 1, 1) := by decide +kernel
theorem dX9_stripsOf_17 : decode cX9_stripsOf 17 = .ok (.imul, 1) := by decide +kernel
theorem dX9_stripsOf_18 : decode cX9_stripsOf 18 = .ok (.ishl, 1) := by decide +kernel
theorem dX9_stripsOf_19 : decode cX9_stripsOf 19 = .ok (.goto 6, 3) := by decide +kernel
theorem dX9_stripsOf_22 : decode cX9_stripsOf 22 = .ok (.iconst 1, 1) := by decide +kernel
theorem dX9_stripsOf_23 : decode cX9_stripsOf 23 = .ok (.iload_n 1, 1) := by decide +kernel
theorem dX9_stripsOf_24 : decode cX9_stripsOf 24 = .ok (.ishl, 1) := by decide +kernel
theorem dX9_stripsOf_25 : decode cX9_stripsOf 25 = .ok (.ireturn, 1) := by decide +kernel
theorem dX9_sideOf_0 : decode cX9_sideOf 0 = .ok (.iload_n 0, 1) := by decide +kernel
theorem dX9_sideOf_1 : decode cX9_sideOf 1 = .ok (.ifCond .ne 7, 3) := by decide +kernel
theorem dX9_sideOf_4 : decode cX9_sideOf 4 = .ok (.iconst 0, 1) := by decide +kernel
theorem dX9_sideOf_5 : decode cX9_sideOf 5 = .ok (.goto 26, 3) := by decide +kernel
theorem dX9_sideOf_8 : decode cX9_sideOf 8 = .ok (.iload_n 0, 1) := by decide +kernel
theorem dX9_sideOf_9 : decode cX9_sideOf 9 = .ok (.iconst 1, 1) := by decide +kernel
theorem dX9_sideOf_10 : decode cX9_sideOf 10 = .ok (.if_icmp .ne 7, 3) := by decide +kernel
theorem dX9_sideOf_13 : decode cX9_sideOf 13 = .ok (.iload_n 1, 1) := by decide +kernel
theorem dX9_sideOf_14 : decode cX9_sideOf 14 = .ok (.goto 17, 3) := by decide +kernel
theorem dX9_sideOf_17 : decode cX9_sideOf 17 = .ok (.iload_n 0, 1) := by decide +kernel
theorem dX9_sideOf_18 : decode cX9_sideOf 18 = .ok (.iconst 2, 1) := by decide +kernel
theorem dX9_sideOf_19 : decode cX9_sideOf 19 = .ok (.if_icmp .ne 9, 3) := by decide +kernel
theorem dX9_sideOf_22 : decode cX9_sideOf 22 = .ok (.iload_n 1, 1) := by decide +kernel
theorem dX9_sideOf_23 : decode cX9_sideOf 23 = .ok (.iconst 2, 1) := by decide +kernel
theorem dX9_sideOf_24 : decode cX9_sideOf 24 = .ok (.irem, 1) := by decide +kernel
theorem dX9_sideOf_25 : decode cX9_sideOf 25 = .ok (.goto 6, 3) := by decide +kernel
theorem dX9_sideOf_28 : decode cX9_sideOf 28 = .ok (.iload_n 1, 1) := by decide +kernel
theorem dX9_sideOf_29 : decode cX9_sideOf 29 = .ok (.iconst 2, 1) := by decide +kernel
theorem dX9_sideOf_30 : decode cX9_sideOf 30 = .ok (.idiv, 1) := by decide +kernel
theorem dX9_sideOf_31 : decode cX9_sideOf 31 = .ok (.ireturn, 1) := by decide +kernel
theorem dX9_turned_0 : decode cX9_turned 0 = .ok (.iload_n 0, 1) := by decide +kernel
theorem dX9_turned_1 : decode cX9_turned 1 = .ok (.iconst 3, 1) := by decide +kernel
theorem dX9_turned_2 : decode cX9_turned 2 = .ok (.ishl, 1) := by decide +kernel
theorem dX9_turned_3 : decode cX9_turned 3 = .ok (.bipush 8, 2) := by decide +kernel
theorem dX9_turned_5 : decode cX9_turned 5 = .ok (.iand, 1) := by decide +kernel
theorem dX9_turned_6 : decode cX9_turned 6 = .ok (.iload_n 0, 1) := by decide +kernel
theorem dX9_turned_7 : decode cX9_turned 7 = .ok (.iconst 1, 1) := by decide +kernel
theorem dX9_turned_8 : decode cX9_turned 8 = .ok (.ishl, 1) := by decide +kernel
theorem dX9_turned_9 : decode cX9_turned 9 = .ok (.iconst 4, 1) := by decide +kernel
theorem dX9_turned_10 : decode cX9_turned 10 = .ok (.iand, 1) := by decide +kernel
theorem dX9_turned_11 : decode cX9_turned 11 = .ok (.ior, 1) := by decide +kernel
theorem dX9_turned_12 : decode cX9_turned 12 = .ok (.iload_n 0, 1) := by decide +kernel
theorem dX9_turned_13 : decode cX9_turned 13 = .ok (.iconst 1, 1) := by decide +kernel
theorem dX9_turned_14 : decode cX9_turned 14 = .ok (.ishr, 1) := by decide +kernel
theorem dX9_turned_15 : decode cX9_turned 15 = .ok (.iconst 2, 1) := by decide +kernel
theorem dX9_turned_16 : decode cX9_turned 16 = .ok (.iand, 1) := by decide +kernel
theorem dX9_turned_17 : decode cX9_turned 17 = .ok (.ior, 1) := by decide +kernel
theorem dX9_turned_18 : decode cX9_turned 18 = .ok (.iload_n 0, 1) := by decide +kernel
theorem dX9_turned_19 : decode cX9_turned 19 = .ok (.iconst 3, 1) := by decide +kernel
theorem dX9_turned_20 : decode cX9_turned 20 = .ok (.ishr, 1) := by decide +kernel
theorem dX9_turned_21 : decode cX9_turned 21 = .ok (.iconst 1, 1) := by decide +kernel
theorem dX9_turned_22 : decode cX9_turned 22 = .ok (.iand, 1) := by decide +kernel
theorem dX9_turned_23 : decode cX9_turned 23 = .ok (.ior, 1) := by decide +kernel
theorem dX9_turned_24 : decode cX9_turned 24 = .ok (.ireturn, 1) := by decide +kernel
theorem dX9_placeOfSpeed_0 : decode cX9_placeOfSpeed 0 = .ok (.iconst 0, 1) := by decide +kernel
theorem dX9_placeOfSpeed_1 : decode cX9_placeOfSpeed 1 = .ok (.istore_n 3, 1) := by decide +kernel
theorem dX9_placeOfSpeed_2 : decode cX9_placeOfSpeed 2 = .ok (.iload_n 3, 1) := by decide +kernel
theorem dX9_placeOfSpeed_3 : decode cX9_placeOfSpeed 3 = .ok (.iconst 3, 1) := by decide +kernel
theorem dX9_placeOfSpeed_4 : decode cX9_placeOfSpeed 4 = .ok (.if_icmp .ge 29, 3) := by decide +kernel
theorem dX9_placeOfSpeed_7 : decode cX9_placeOfSpeed 7 = .ok (.iload_n 2, 1) := by decide +kernel
theorem dX9_placeOfSpeed_8 : decode cX9_placeOfSpeed 8 = .ok (.ifCond .le 19, 3) := by decide +kernel
theorem dX9_placeOfSpeed_11 : decode cX9_placeOfSpeed 11 = .ok (.aload_n 0, 1) := by decide +kernel
theorem dX9_placeOfSpeed_12 : decode cX9_placeOfSpeed 12 = .ok (.getfield 26, 3) := by decide +kernel
theorem dX9_placeOfSpeed_15 : decode cX9_placeOfSpeed 15 = .ok (.iconst 3, 1) := by decide +kernel
theorem dX9_placeOfSpeed_16 : decode cX9_placeOfSpeed 16 = .ok (.iload_n 1, 1) := by decide +kernel
theorem dX9_placeOfSpeed_17 : decode cX9_placeOfSpeed 17 = .ok (.imul, 1) := by decide +kernel
theorem dX9_placeOfSpeed_18 : decode cX9_placeOfSpeed 18 = .ok (.iload_n 3, 1) := by decide +kernel
theorem dX9_placeOfSpeed_19 : decode cX9_placeOfSpeed 19 = .ok (.iadd, 1) := by decide +kernel
theorem dX9_placeOfSpeed_20 : decode cX9_placeOfSpeed 20 = .ok (.iaload, 1) := by decide +kernel
theorem dX9_placeOfSpeed_21 : decode cX9_placeOfSpeed 21 = .ok (.iload_n 2, 1) := by decide +kernel
theorem dX9_placeOfSpeed_22 : decode cX9_placeOfSpeed 22 = .ok (.if_icmp .ne 5, 3) := by decide +kernel
theorem dX9_placeOfSpeed_25 : decode cX9_placeOfSpeed 25 = .ok (.iload_n 3, 1) := by decide +kernel
theorem dX9_placeOfSpeed_26 : decode cX9_placeOfSpeed 26 = .ok (.ireturn, 1) := by decide +kernel
theorem dX9_placeOfSpeed_27 : decode cX9_placeOfSpeed 27 = .ok (.iinc 3 1, 3) := by decide +kernel
theorem dX9_placeOfSpeed_30 : decode cX9_placeOfSpeed 30 = .ok (.goto (-28), 3) := by decide +kernel
theorem dX9_placeOfSpeed_33 : decode cX9_placeOfSpeed 33 = .ok (.iconst (-1), 1) := by decide +kernel
theorem dX9_placeOfSpeed_34 : decode cX9_placeOfSpeed 34 = .ok (.ireturn, 1) := by decide +kernel
theorem dX9_hasLayout_0 : decode cX9_hasLayout 0 = .ok (.iload_n 2, 1) := by decide +kernel
theorem dX9_hasLayout_1 : decode cX9_hasLayout 1 = .ok (.iconst 0, 1) := by decide +kernel
theorem dX9_hasLayout_2 : decode cX9_hasLayout 2 = .ok (.iconst 3, 1) := by decide +kernel
theorem dX9_hasLayout_3 : decode cX9_hasLayout 3 = .ok (.invokestatic 42, 3) := by decide +kernel
theorem dX9_hasLayout_6 : decode cX9_hasLayout 6 = .ok (.ifCond .eq 21, 3) := by decide +kernel
theorem dX9_hasLayout_9 : decode cX9_hasLayout 9 = .ok (.aload_n 0, 1) := by decide +kernel
theorem dX9_hasLayout_10 : decode cX9_hasLayout 10 = .ok (.getfield 29, 3) := by decide +kernel
theorem dX9_hasLayout_13 : decode cX9_hasLayout 13 = .ok (.iload_n 1, 1) := by decide +kernel
theorem dX9_hasLayout_14 : decode cX9_hasLayout 14 = .ok (.iaload, 1) := by decide +kernel
theorem dX9_hasLayout_15 : decode cX9_hasLayout 15 = .ok (.iload_n 2, 1) := by decide +kernel
theorem dX9_hasLayout_16 : decode cX9_hasLayout 16 = .ok (.ishr, 1) := by decide +kernel
theorem dX9_hasLayout_17 : decode cX9_hasLayout 17 = .ok (.iconst 1, 1) := by decide +kernel
theorem dX9_hasLayout_18 : decode cX9_hasLayout 18 = .ok (.iand, 1) := by decide +kernel
theorem dX9_hasLayout_19 : decode cX9_hasLayout 19 = .ok (.iconst 1, 1) := by decide +kernel
theorem dX9_hasLayout_20 : decode cX9_hasLayout 20 = .ok (.if_icmp .ne 7, 3) := by decide +kernel
theorem dX9_hasLayout_23 : decode cX9_hasLayout 23 = .ok (.iconst 1, 1) := by decide +kernel
theorem dX9_hasLayout_24 : decode cX9_hasLayout 24 = .ok (.goto 4, 3) := by decide +kernel
theorem dX9_hasLayout_27 : decode cX9_hasLayout 27 = .ok (.iconst 0, 1) := by decide +kernel
theorem dX9_hasLayout_28 : decode cX9_hasLayout 28 = .ok (.ireturn, 1) := by decide +kernel
theorem dX9_hasSpeed_0 : decode cX9_hasSpeed 0 = .ok (.bipush 64, 2) := by decide +kernel
theorem dX9_hasSpeed_2 : decode cX9_hasSpeed 2 = .ok (.iconst 5, 1) := by decide +kernel
theorem dX9_hasSpeed_3 : decode cX9_hasSpeed 3 = .ok (.iload_n 1, 1) := by decide +kernel
theorem dX9_hasSpeed_4 : decode cX9_hasSpeed 4 = .ok (.imul, 1) := by decide +kernel
theorem dX9_hasSpeed_5 : decode cX9_hasSpeed 5 = .ok (.iadd, 1) := by decide +kernel
theorem dX9_hasSpeed_6 : decode cX9_hasSpeed 6 = .ok (.istore_n 3, 1) := by decide +kernel
theorem dX9_hasSpeed_7 : decode cX9_hasSpeed 7 = .ok (.aload_n 0, 1) := by decide +kernel
theorem dX9_hasSpeed_8 : decode cX9_hasSpeed 8 = .ok (.aload_n 0, 1) := by decide +kernel
theorem dX9_hasSpeed_9 : decode cX9_hasSpeed 9 = .ok (.getfield 7, 3) := by decide +kernel
theorem dX9_hasSpeed_12 : decode cX9_hasSpeed 12 = .ok (.iload_n 3, 1) := by decide +kernel
theorem dX9_hasSpeed_13 : decode cX9_hasSpeed 13 = .ok (.iaload, 1) := by decide +kernel
theorem dX9_hasSpeed_14 : decode cX9_hasSpeed 14 = .ok (.iload_n 2, 1) := by decide +kernel
theorem dX9_hasSpeed_15 : decode cX9_hasSpeed 15 = .ok (.invokevirtual 46, 3) := by decide +kernel
theorem dX9_hasSpeed_18 : decode cX9_hasSpeed 18 = .ok (.istore 4, 2) := by decide +kernel
theorem dX9_hasSpeed_20 : decode cX9_hasSpeed 20 = .ok (.iload 4, 2) := by decide +kernel
theorem dX9_hasSpeed_22 : decode cX9_hasSpeed 22 = .ok (.ifCond .lt 24, 3) := by decide +kernel
theorem dX9_hasSpeed_25 : decode cX9_hasSpeed 25 = .ok (.aload_n 0, 1) := by decide +kernel
theorem dX9_hasSpeed_26 : decode cX9_hasSpeed 26 = .ok (.getfield 7, 3) := by decide +kernel
theorem dX9_hasSpeed_29 : decode cX9_hasSpeed 29 = .ok (.iload_n 3, 1) := by decide +kernel
theorem dX9_hasSpeed_30 : decode cX9_hasSpeed 30 = .ok (.iconst 1, 1) := by decide +kernel
theorem dX9_hasSpeed_31 : decode cX9_hasSpeed 31 = .ok (.iadd, 1) := by decide +kernel
theorem dX9_hasSpeed_32 : decode cX9_hasSpeed 32 = .ok (.iaload, 1) := by decide +kernel
theorem dX9_hasSpeed_33 : decode cX9_hasSpeed 33 = .ok (.iload 4, 2) := by decide +kernel
theorem dX9_hasSpeed_35 : decode cX9_hasSpeed 35 = .ok (.ishr, 1) := by decide +kernel
theorem dX9_hasSpeed_36 : decode cX9_hasSpeed 36 = .ok (.iconst 1, 1) := by decide +kernel
theorem dX9_hasSpeed_37 : decode cX9_hasSpeed 37 = .ok (.iand, 1) := by decide +kernel
theorem dX9_hasSpeed_38 : decode cX9_hasSpeed 38 = .ok (.iconst 1, 1) := by decide +kernel
theorem dX9_hasSpeed_39 : decode cX9_hasSpeed 39 = .ok (.if_icmp .ne 7, 3) := by decide +kernel
theorem dX9_hasSpeed_42 : decode cX9_hasSpeed 42 = .ok (.iconst 1, 1) := by decide +kernel
theorem dX9_hasSpeed_43 : decode cX9_hasSpeed 43 = .ok (.goto 4, 3) := by decide +kernel
theorem dX9_hasSpeed_46 : decode cX9_hasSpeed 46 = .ok (.iconst 0, 1) := by decide +kernel
theorem dX9_hasSpeed_47 : decode cX9_hasSpeed 47 = .ok (.ireturn, 1) := by decide +kernel
theorem dX9_addCarrier_0 : decode cX9_addCarrier 0 = .ok (.iload_n 1, 1) := by decide +kernel
theorem dX9_addCarrier_1 : decode cX9_addCarrier 1 = .ok (.iconst 0, 1) := by decide +kernel
theorem dX9_addCarrier_2 : decode cX9_addCarrier 2 = .ok (.iconst 2, 1) := by decide +kernel
theorem dX9_addCarrier_3 : decode cX9_addCarrier 3 = .ok (.invokestatic 42, 3) := by decide +kernel
theorem dX9_addCarrier_6 : decode cX9_addCarrier 6 = .ok (.ifCond .eq 44, 3) := by decide +kernel
theorem dX9_addCarrier_9 : decode cX9_addCarrier 9 = .ok (.aload_n 0, 1) := by decide +kernel
theorem dX9_addCarrier_10 : decode cX9_addCarrier 10 = .ok (.iload_n 1, 1) := by decide +kernel
theorem dX9_addCarrier_11 : decode cX9_addCarrier 11 = .ok (.iload_n 2, 1) := by decide +kernel
theorem dX9_addCarrier_12 : decode cX9_addCarrier 12 = .ok (.invokevirtual 46, 3) := by decide +kernel
theorem dX9_addCarrier_15 : decode cX9_addCarrier 15 = .ok (.ifCond .lt 35, 3) := by decide +kernel
theorem dX9_addCarrier_18 : decode cX9_addCarrier 18 = .ok (.aload_n 0, 1) := by decide +kernel
theorem dX9_addCarrier_19 : decode cX9_addCarrier 19 = .ok (.iload_n 1, 1) := by decide +kernel
theorem dX9_addCarrier_20 : decode cX9_addCarrier 20 = .ok (.iload_n 3, 1) := by decide +kernel
theorem dX9_addCarrier_21 : decode cX9_addCarrier 21 = .ok (.invokevirtual 50, 3) := by decide +kernel
theorem dX9_addCarrier_24 : decode cX9_addCarrier 24 = .ok (.ifCond .eq 26, 3) := by decide +kernel
theorem dX9_addCarrier_27 : decode cX9_addCarrier 27 = .ok (.iload 4, 2) := by decide +kernel
theorem dX9_addCarrier_29 : decode cX9_addCarrier 29 = .ok (.iconst 1, 1) := by decide +kernel
theorem dX9_addCarrier_30 : decode cX9_addCarrier 30 = .ok (.sipush 3600, 3) := by decide +kernel
theorem dX9_addCarrier_33 : decode cX9_addCarrier 33 = .ok (.invokestatic 42, 3) := by decide +kernel
theorem dX9_addCarrier_36 : decode cX9_addCarrier 36 = .ok (.ifCond .eq 14, 3) := by decide +kernel
theorem dX9_addCarrier_39 : decode cX9_addCarrier 39 = .ok (.iload 5, 2) := by decide +kernel
theorem dX9_addCarrier_41 : decode cX9_addCarrier 41 = .ok (.iconst 1, 1) := by decide +kernel
theorem dX9_addCarrier_42 : decode cX9_addCarrier 42 = .ok (.bipush 99, 2) := by decide +kernel
theorem dX9_addCarrier_44 : decode cX9_addCarrier 44 = .ok (.invokestatic 42, 3) := by decide +kernel
theorem dX9_addCarrier_47 : decode cX9_addCarrier 47 = .ok (.ifCond .ne 6, 3) := by decide +kernel
theorem dX9_addCarrier_50 : decode cX9_addCarrier 50 = .ok (.bipush (-2), 2) := by decide +kernel
theorem dX9_addCarrier_52 : decode cX9_addCarrier 52 = .ok (.ireturn, 1) := by decide +kernel
theorem dX9_addCarrier_53 : decode cX9_addCarrier 53 = .ok (.aload_n 0, 1) := by decide +kernel
theorem dX9_addCarrier_54 : decode cX9_addCarrier 54 = .ok (.getfield 7, 3) := by decide +kernel
theorem dX9_addCarrier_57 : decode cX9_addCarrier 57 = .ok (.iconst 1, 1) := by decide +kernel
theorem dX9_addCarrier_58 : decode cX9_addCarrier 58 = .ok (.iaload, 1) := by decide +kernel
theorem dX9_addCarrier_59 : decode cX9_addCarrier 59 = .ok (.bipush 8, 2) := by decide +kernel
theorem dX9_addCarrier_61 : decode cX9_addCarrier 61 = .ok (.if_icmp .ne 6, 3) := by decide +kernel
theorem dX9_addCarrier_64 : decode cX9_addCarrier 64 = .ok (.bipush (-4), 2) := by decide +kernel
theorem dX9_addCarrier_66 : decode cX9_addCarrier 66 = .ok (.ireturn, 1) := by decide +kernel
theorem dX9_addCarrier_67 : decode cX9_addCarrier 67 = .ok (.aload_n 0, 1) := by decide +kernel
theorem dX9_addCarrier_68 : decode cX9_addCarrier 68 = .ok (.invokevirtual 54, 3) := by decide +kernel
theorem dX9_addCarrier_71 : decode cX9_addCarrier 71 = .ok (.bipush 24, 2) := by decide +kernel
theorem dX9_addCarrier_73 : decode cX9_addCarrier 73 = .ok (.iconst 5, 1) := by decide +kernel
theorem dX9_addCarrier_74 : decode cX9_addCarrier 74 = .ok (.aload_n 0, 1) := by decide +kernel
theorem dX9_addCarrier_75 : decode cX9_addCarrier 75 = .ok (.getfield 7, 3) := by decide +kernel
theorem dX9_addCarrier_78 : decode cX9_addCarrier 78 = .ok (.iconst 1, 1) := by decide +kernel
theorem dX9_addCarrier_79 : decode cX9_addCarrier 79 = .ok (.iaload, 1) := by decide +kernel
theorem dX9_addCarrier_80 : decode cX9_addCarrier 80 = .ok (.imul, 1) := by decide +kernel
theorem dX9_addCarrier_81 : decode cX9_addCarrier 81 = .ok (.iadd, 1) := by decide +kernel
theorem dX9_addCarrier_82 : decode cX9_addCarrier 82 = .ok (.istore 6, 2) := by decide +kernel
theorem dX9_addCarrier_84 : decode cX9_addCarrier 84 = .ok (.aload_n 0, 1) := by decide +kernel
theorem dX9_addCarrier_85 : decode cX9_addCarrier 85 = .ok (.getfield 7, 3) := by decide +kernel
theorem dX9_addCarrier_88 : decode cX9_addCarrier 88 = .ok (.iload 6, 2) := by decide +kernel
theorem dX9_addCarrier_90 : decode cX9_addCarrier 90 = .ok (.iload_n 1, 1) := by decide +kernel
theorem dX9_addCarrier_91 : decode cX9_addCarrier 91 = .ok (.iastore, 1) := by decide +kernel
theorem dX9_addCarrier_92 : decode cX9_addCarrier 92 = .ok (.aload_n 0, 1) := by decide +kernel
theorem dX9_addCarrier_93 : decode cX9_addCarrier 93 = .ok (.getfield 7, 3) := by decide +kernel
theorem dX9_addCarrier_96 : decode cX9_addCarrier 96 = .ok (.iload 6, 2) := by decide +kernel
theorem dX9_addCarrier_98 : decode cX9_addCarrier 98 = .ok (.iconst 1, 1) := by decide +kernel
theorem dX9_addCarrier_99 : decode cX9_addCarrier 99 = .ok (.iadd, 1) := by decide +kernel
theorem dX9_addCarrier_100 : decode cX9_addCarrier 100 = .ok (.iload_n 2, 1) := by decide +kernel
theorem dX9_addCarrier_101 : decode cX9_addCarrier 101 = .ok (.iastore, 1) := by decide +kernel
theorem dX9_addCarrier_102 : decode cX9_addCarrier 102 = .ok (.aload_n 0, 1) := by decide +kernel
theorem dX9_addCarrier_103 : decode cX9_addCarrier 103 = .ok (.getfield 7, 3) := by decide +kernel
theorem dX9_addCarrier_106 : decode cX9_addCarrier 106 = .ok (.iload 6, 2) := by decide +kernel
theorem dX9_addCarrier_108 : decode cX9_addCarrier 108 = .ok (.iconst 2, 1) := by decide +kernel
theorem dX9_addCarrier_109 : decode cX9_addCarrier 109 = .ok (.iadd, 1) := by decide +kernel
theorem dX9_addCarrier_110 : decode cX9_addCarrier 110 = .ok (.iload_n 3, 1) := by decide +kernel
theorem dX9_addCarrier_111 : decode cX9_addCarrier 111 = .ok (.iastore, 1) := by decide +kernel
theorem dX9_addCarrier_112 : decode cX9_addCarrier 112 = .ok (.aload_n 0, 1) := by decide +kernel
theorem dX9_addCarrier_113 : decode cX9_addCarrier 113 = .ok (.getfield 7, 3) := by decide +kernel
theorem dX9_addCarrier_116 : decode cX9_addCarrier 116 = .ok (.iload 6, 2) := by decide +kernel
theorem dX9_addCarrier_118 : decode cX9_addCarrier 118 = .ok (.iconst 3, 1) := by decide +kernel
theorem dX9_addCarrier_119 : decode cX9_addCarrier 119 = .ok (.iadd, 1) := by decide +kernel
theorem dX9_addCarrier_120 : decode cX9_addCarrier 120 = .ok (.iload 4, 2) := by decide +kernel
theorem dX9_addCarrier_122 : decode cX9_addCarrier 122 = .ok (.iastore, 1) := by decide +kernel
theorem dX9_addCarrier_123 : decode cX9_addCarrier 123 = .ok (.aload_n 0, 1) := by decide +kernel
theorem dX9_addCarrier_124 : decode cX9_addCarrier 124 = .ok (.getfield 7, 3) := by decide +kernel
theorem dX9_addCarrier_127 : decode cX9_addCarrier 127 = .ok (.iload 6, 2) := by decide +kernel
theorem dX9_addCarrier_129 : decode cX9_addCarrier 129 = .ok (.iconst 4, 1) := by decide +kernel
theorem dX9_addCarrier_130 : decode cX9_addCarrier 130 = .ok (.iadd, 1) := by decide +kernel
theorem dX9_addCarrier_131 : decode cX9_addCarrier 131 = .ok (.iload 5, 2) := by decide +kernel
theorem dX9_addCarrier_133 : decode cX9_addCarrier 133 = .ok (.iastore, 1) := by decide +kernel
theorem dX9_addCarrier_134 : decode cX9_addCarrier 134 = .ok (.aload_n 0, 1) := by decide +kernel
theorem dX9_addCarrier_135 : decode cX9_addCarrier 135 = .ok (.getfield 7, 3) := by decide +kernel
theorem dX9_addCarrier_138 : decode cX9_addCarrier 138 = .ok (.iconst 1, 1) := by decide +kernel
theorem dX9_addCarrier_139 : decode cX9_addCarrier 139 = .ok (.dup2, 1) := by decide +kernel
theorem dX9_addCarrier_140 : decode cX9_addCarrier 140 = .ok (.iaload, 1) := by decide +kernel
theorem dX9_addCarrier_141 : decode cX9_addCarrier 141 = .ok (.iconst 1, 1) := by decide +kernel
theorem dX9_addCarrier_142 : decode cX9_addCarrier 142 = .ok (.iadd, 1) := by decide +kernel
theorem dX9_addCarrier_143 : decode cX9_addCarrier 143 = .ok (.iastore, 1) := by decide +kernel
theorem dX9_addCarrier_144 : decode cX9_addCarrier 144 = .ok (.aload_n 0, 1) := by decide +kernel
theorem dX9_addCarrier_145 : decode cX9_addCarrier 145 = .ok (.getfield 7, 3) := by decide +kernel
theorem dX9_addCarrier_148 : decode cX9_addCarrier 148 = .ok (.iconst 1, 1) := by decide +kernel
theorem dX9_addCarrier_149 : decode cX9_addCarrier 149 = .ok (.iaload, 1) := by decide +kernel
theorem dX9_addCarrier_150 : decode cX9_addCarrier 150 = .ok (.iconst 1, 1) := by decide +kernel
theorem dX9_addCarrier_151 : decode cX9_addCarrier 151 = .ok (.isub, 1) := by decide +kernel
theorem dX9_addCarrier_152 : decode cX9_addCarrier 152 = .ok (.ireturn, 1) := by decide +kernel
theorem dX9_addMachine_0 : decode cX9_addMachine 0 = .ok (.iload_n 1, 1) := by decide +kernel
theorem dX9_addMachine_1 : decode cX9_addMachine 1 = .ok (.iconst 0, 1) := by decide +kernel
theorem dX9_addMachine_2 : decode cX9_addMachine 2 = .ok (.iconst 2, 1) := by decide +kernel
theorem dX9_addMachine_3 : decode cX9_addMachine 3 = .ok (.invokestatic 42, 3) := by decide +kernel
theorem dX9_addMachine_6 : decode cX9_addMachine 6 = .ok (.ifCond .eq 42, 3) := by decide +kernel
theorem dX9_addMachine_9 : decode cX9_addMachine 9 = .ok (.iload_n 2, 1) := by decide +kernel
theorem dX9_addMachine_10 : decode cX9_addMachine 10 = .ok (.iconst 1, 1) := by decide +kernel
theorem dX9_addMachine_11 : decode cX9_addMachine 11 = .ok (.iload_n 1, 1) := by decide +kernel
theorem dX9_addMachine_12 : decode cX9_addMachine 12 = .ok (.iconst 2, 1) := by decide +kernel
theorem dX9_addMachine_13 : decode cX9_addMachine 13 = .ok (.if_icmp .ne 7, 3) := by decide +kernel
theorem dX9_addMachine_16 : decode cX9_addMachine 16 = .ok (.iconst 1, 1) := by decide +kernel
theorem dX9_addMachine_17 : decode cX9_addMachine 17 = .ok (.goto 5, 3) := by decide +kernel
theorem dX9_addMachine_20 : decode cX9_addMachine 20 = .ok (.bipush 7, 2) := by decide +kernel
theorem dX9_addMachine_22 : decode cX9_addMachine 22 = .ok (.invokestatic 42, 3) := by decide +kernel
theorem dX9_addMachine_25 : decode cX9_addMachine 25 = .ok (.ifCond .eq 23, 3) := by decide +kernel
theorem dX9_addMachine_28 : decode cX9_addMachine 28 = .ok (.aload_n 0, 1) := by decide +kernel
theorem dX9_addMachine_29 : decode cX9_addMachine 29 = .ok (.iload_n 1, 1) := by decide +kernel
theorem dX9_addMachine_30 : decode cX9_addMachine 30 = .ok (.iload_n 3, 1) := by decide +kernel
theorem dX9_addMachine_31 : decode cX9_addMachine 31 = .ok (.invokevirtual 50, 3) := by decide +kernel
theorem dX9_addMachine_34 : decode cX9_addMachine 34 = .ok (.ifCond .eq 14, 3) := by decide +kernel
theorem dX9_addMachine_37 : decode cX9_addMachine 37 = .ok (.iload 4, 2) := by decide +kernel
theorem dX9_addMachine_39 : decode cX9_addMachine 39 = .ok (.iconst 1, 1) := by decide +kernel
theorem dX9_addMachine_40 : decode cX9_addMachine 40 = .ok (.bipush 100, 2) := by decide +kernel
theorem dX9_addMachine_42 : decode cX9_addMachine 42 = .ok (.invokestatic 42, 3) := by decide +kernel
theorem dX9_addMachine_45 : decode cX9_addMachine 45 = .ok (.ifCond .ne 6, 3) := by decide +kernel
theorem dX9_addMachine_48 : decode cX9_addMachine 48 = .ok (.bipush (-2), 2) := by decide +kernel
theorem dX9_addMachine_50 : decode cX9_addMachine 50 = .ok (.ireturn, 1) := by decide +kernel
theorem dX9_addMachine_51 : decode cX9_addMachine 51 = .ok (.aload_n 0, 1) := by decide +kernel
theorem dX9_addMachine_52 : decode cX9_addMachine 52 = .ok (.getfield 7, 3) := by decide +kernel
theorem dX9_addMachine_55 : decode cX9_addMachine 55 = .ok (.iconst 2, 1) := by decide +kernel
theorem dX9_addMachine_56 : decode cX9_addMachine 56 = .ok (.iaload, 1) := by decide +kernel
theorem dX9_addMachine_57 : decode cX9_addMachine 57 = .ok (.iconst 4, 1) := by decide +kernel
theorem dX9_addMachine_58 : decode cX9_addMachine 58 = .ok (.if_icmp .ne 6, 3) := by decide +kernel
theorem dX9_addMachine_61 : decode cX9_addMachine 61 = .ok (.bipush (-4), 2) := by decide +kernel
theorem dX9_addMachine_63 : decode cX9_addMachine 63 = .ok (.ireturn, 1) := by decide +kernel
theorem dX9_addMachine_64 : decode cX9_addMachine 64 = .ok (.aload_n 0, 1) := by decide +kernel
theorem dX9_addMachine_65 : decode cX9_addMachine 65 = .ok (.invokevirtual 54, 3) := by decide +kernel
theorem dX9_addMachine_68 : decode cX9_addMachine 68 = .ok (.bipush 64, 2) := by decide +kernel
theorem dX9_addMachine_70 : decode cX9_addMachine 70 = .ok (.iconst 5, 1) := by decide +kernel
theorem dX9_addMachine_71 : decode cX9_addMachine 71 = .ok (.aload_n 0, 1) := by decide +kernel
theorem dX9_addMachine_72 : decode cX9_addMachine 72 = .ok (.getfield 7, 3) := by decide +kernel
theorem dX9_addMachine_75 : decode cX9_addMachine 75 = .ok (.iconst 2, 1) := by decide +kernel
theorem dX9_addMachine_76 : decode cX9_addMachine 76 = .ok (.iaload, 1) := by decide +kernel
theorem dX9_addMachine_77 : decode cX9_addMachine 77 = .ok (.imul, 1) := by decide +kernel
theorem dX9_addMachine_78 : decode cX9_addMachine 78 = .ok (.iadd, 1) := by decide +kernel
theorem dX9_addMachine_79 : decode cX9_addMachine 79 = .ok (.istore 5, 2) := by decide +kernel
theorem dX9_addMachine_81 : decode cX9_addMachine 81 = .ok (.aload_n 0, 1) := by decide +kernel
theorem dX9_addMachine_82 : decode cX9_addMachine 82 = .ok (.getfield 7, 3) := by decide +kernel
theorem dX9_addMachine_85 : decode cX9_addMachine 85 = .ok (.iload 5, 2) := by decide +kernel
theorem dX9_addMachine_87 : decode cX9_addMachine 87 = .ok (.iload_n 1, 1) := by decide +kernel
theorem dX9_addMachine_88 : decode cX9_addMachine 88 = .ok (.iastore, 1) := by decide +kernel
theorem dX9_addMachine_89 : decode cX9_addMachine 89 = .ok (.aload_n 0, 1) := by decide +kernel
theorem dX9_addMachine_90 : decode cX9_addMachine 90 = .ok (.getfield 7, 3) := by decide +kernel
theorem dX9_addMachine_93 : decode cX9_addMachine 93 = .ok (.iload 5, 2) := by decide +kernel
theorem dX9_addMachine_95 : decode cX9_addMachine 95 = .ok (.iconst 1, 1) := by decide +kernel
theorem dX9_addMachine_96 : decode cX9_addMachine 96 = .ok (.iadd, 1) := by decide +kernel
theorem dX9_addMachine_97 : decode cX9_addMachine 97 = .ok (.iload_n 2, 1) := by decide +kernel
theorem dX9_addMachine_98 : decode cX9_addMachine 98 = .ok (.iastore, 1) := by decide +kernel
theorem dX9_addMachine_99 : decode cX9_addMachine 99 = .ok (.aload_n 0, 1) := by decide +kernel
theorem dX9_addMachine_100 : decode cX9_addMachine 100 = .ok (.getfield 7, 3) := by decide +kernel
theorem dX9_addMachine_103 : decode cX9_addMachine 103 = .ok (.iload 5, 2) := by decide +kernel
theorem dX9_addMachine_105 : decode cX9_addMachine 105 = .ok (.iconst 2, 1) := by decide +kernel
theorem dX9_addMachine_106 : decode cX9_addMachine 106 = .ok (.iadd, 1) := by decide +kernel
theorem dX9_addMachine_107 : decode cX9_addMachine 107 = .ok (.iload_n 3, 1) := by decide +kernel
theorem dX9_addMachine_108 : decode cX9_addMachine 108 = .ok (.iastore, 1) := by decide +kernel
theorem dX9_addMachine_109 : decode cX9_addMachine 109 = .ok (.aload_n 0, 1) := by decide +kernel
theorem dX9_addMachine_110 : decode cX9_addMachine 110 = .ok (.getfield 7, 3) := by decide +kernel
theorem dX9_addMachine_113 : decode cX9_addMachine 113 = .ok (.iload 5, 2) := by decide +kernel
theorem dX9_addMachine_115 : decode cX9_addMachine 115 = .ok (.iconst 3, 1) := by decide +kernel
theorem dX9_addMachine_116 : decode cX9_addMachine 116 = .ok (.iadd, 1) := by decide +kernel
theorem dX9_addMachine_117 : decode cX9_addMachine 117 = .ok (.iload 4, 2) := by decide +kernel
theorem dX9_addMachine_119 : decode cX9_addMachine 119 = .ok (.iastore, 1) := by decide +kernel
theorem dX9_addMachine_120 : decode cX9_addMachine 120 = .ok (.aload_n 0, 1) := by decide +kernel
theorem dX9_addMachine_121 : decode cX9_addMachine 121 = .ok (.getfield 7, 3) := by decide +kernel
theorem dX9_addMachine_124 : decode cX9_addMachine 124 = .ok (.iload 5, 2) := by decide +kernel
theorem dX9_addMachine_126 : decode cX9_addMachine 126 = .ok (.iconst 4, 1) := by decide +kernel
theorem dX9_addMachine_127 : decode cX9_addMachine 127 = .ok (.iadd, 1) := by decide +kernel
theorem dX9_addMachine_128 : decode cX9_addMachine 128 = .ok (.sipush 28800, 3) := by decide +kernel
theorem dX9_addMachine_131 : decode cX9_addMachine 131 = .ok (.iastore, 1) := by decide +kernel
theorem dX9_addMachine_132 : decode cX9_addMachine 132 = .ok (.aload_n 0, 1) := by decide +kernel
theorem dX9_addMachine_133 : decode cX9_addMachine 133 = .ok (.getfield 7, 3) := by decide +kernel
theorem dX9_addMachine_136 : decode cX9_addMachine 136 = .ok (.iconst 2, 1) := by decide +kernel
theorem dX9_addMachine_137 : decode cX9_addMachine 137 = .ok (.dup2, 1) := by decide +kernel
theorem dX9_addMachine_138 : decode cX9_addMachine 138 = .ok (.iaload, 1) := by decide +kernel
theorem dX9_addMachine_139 : decode cX9_addMachine 139 = .ok (.iconst 1, 1) := by decide +kernel
theorem dX9_addMachine_140 : decode cX9_addMachine 140 = .ok (.iadd, 1) := by decide +kernel
theorem dX9_addMachine_141 : decode cX9_addMachine 141 = .ok (.iastore, 1) := by decide +kernel
theorem dX9_addMachine_142 : decode cX9_addMachine 142 = .ok (.aload_n 0, 1) := by decide +kernel
theorem dX9_addMachine_143 : decode cX9_addMachine 143 = .ok (.getfield 7, 3) := by decide +kernel
theorem dX9_addMachine_146 : decode cX9_addMachine 146 = .ok (.iconst 2, 1) := by decide +kernel
theorem dX9_addMachine_147 : decode cX9_addMachine 147 = .ok (.iaload, 1) := by decide +kernel
theorem dX9_addMachine_148 : decode cX9_addMachine 148 = .ok (.iconst 1, 1) := by decide +kernel
theorem dX9_addMachine_149 : decode cX9_addMachine 149 = .ok (.isub, 1) := by decide +kernel
theorem dX9_addMachine_150 : decode cX9_addMachine 150 = .ok (.ireturn, 1) := by decide +kernel
theorem dX9_sideOfAll_0 : decode cX9_sideOfAll 0 = .ok (.iconst (-1), 1) := by decide +kernel
theorem dX9_sideOfAll_1 : decode cX9_sideOfAll 1 = .ok (.istore_n 2, 1) := by decide +kernel
theorem dX9_sideOfAll_2 : decode cX9_sideOfAll 2 = .ok (.iload_n 1, 1) := by decide +kernel
theorem dX9_sideOfAll_3 : decode cX9_sideOfAll 3 = .ok (.iconst 1, 1) := by decide +kernel
theorem dX9_sideOfAll_4 : decode cX9_sideOfAll 4 = .ok (.iconst 1, 1) := by decide +kernel
theorem dX9_sideOfAll_5 : decode cX9_sideOfAll 5 = .ok (.iload_n 0, 1) := by decide +kernel
theorem dX9_sideOfAll_6 : decode cX9_sideOfAll 6 = .ok (.invokestatic 57, 3) := by decide +kernel
theorem dX9_sideOfAll_9 : decode cX9_sideOfAll 9 = .ok (.ishl, 1) := by decide +kernel
theorem dX9_sideOfAll_10 : decode cX9_sideOfAll 10 = .ok (.iconst 1, 1) := by decide +kernel
theorem dX9_sideOfAll_11 : decode cX9_sideOfAll 11 = .ok (.isub, 1) := by decide +kernel
theorem dX9_sideOfAll_12 : decode cX9_sideOfAll 12 = .ok (.invokestatic 42, 3) := by decide +kernel
theorem dX9_sideOfAll_15 : decode cX9_sideOfAll 15 = .ok (.istore_n 3, 1) := by decide +kernel
theorem dX9_sideOfAll_16 : decode cX9_sideOfAll 16 = .ok (.iconst 0, 1) := by decide +kernel
theorem dX9_sideOfAll_17 : decode cX9_sideOfAll 17 = .ok (.istore 4, 2) := by decide +kernel
theorem dX9_sideOfAll_19 : decode cX9_sideOfAll 19 = .ok (.iload 4, 2) := by decide +kernel
theorem dX9_sideOfAll_21 : decode cX9_sideOfAll 21 = .ok (.iconst 4, 1) := by decide +kernel
theorem dX9_sideOfAll_22 : decode cX9_sideOfAll 22 = .ok (.if_icmp .ge 50, 3) := by decide +kernel
theorem dX9_sideOfAll_25 : decode cX9_sideOfAll 25 = .ok (.iload_n 3, 1) := by decide +kernel
theorem dX9_sideOfAll_26 : decode cX9_sideOfAll 26 = .ok (.ifCond .eq 46, 3) := by decide +kernel
theorem dX9_sideOfAll_29 : decode cX9_sideOfAll 29 = .ok (.iload_n 1, 1) := by decide +kernel
theorem dX9_sideOfAll_30 : decode cX9_sideOfAll 30 = .ok (.iload 4, 2) := by decide +kernel
theorem dX9_sideOfAll_32 : decode cX9_sideOfAll 32 = .ok (.ishr, 1) := by decide +kernel
theorem dX9_sideOfAll_33 : decode cX9_sideOfAll 33 = .ok (.iconst 1, 1) := by decide +kernel
theorem dX9_sideOfAll_34 : decode cX9_sideOfAll 34 = .ok (.iand, 1) := by decide +kernel
theorem dX9_sideOfAll_35 : decode cX9_sideOfAll 35 = .ok (.iconst 1, 1) := by decide +kernel
theorem dX9_sideOfAll_36 : decode cX9_sideOfAll 36 = .ok (.if_icmp .ne 30, 3) := by decide +kernel
theorem dX9_sideOfAll_39 : decode cX9_sideOfAll 39 = .ok (.iload_n 2, 1) := by decide +kernel
theorem dX9_sideOfAll_40 : decode cX9_sideOfAll 40 = .ok (.ifCond .lt 13, 3) := by decide +kernel
theorem dX9_sideOfAll_43 : decode cX9_sideOfAll 43 = .ok (.iload_n 2, 1) := by decide +kernel
theorem dX9_sideOfAll_44 : decode cX9_sideOfAll 44 = .ok (.iload_n 0, 1) := by decide +kernel
theorem dX9_sideOfAll_45 : decode cX9_sideOfAll 45 = .ok (.iload 4, 2) := by decide +kernel
theorem dX9_sideOfAll_47 : decode cX9_sideOfAll 47 = .ok (.invokestatic 61, 3) := by decide +kernel
theorem dX9_sideOfAll_50 : decode cX9_sideOfAll 50 = .ok (.if_icmp .ne 7, 3) := by decide +kernel
theorem dX9_sideOfAll_53 : decode cX9_sideOfAll 53 = .ok (.iconst 1, 1) := by decide +kernel
theorem dX9_sideOfAll_54 : decode cX9_sideOfAll 54 = .ok (.goto 4, 3) := by decide +kernel
theorem dX9_sideOfAll_57 : decode cX9_sideOfAll 57 = .ok (.iconst 0, 1) := by decide +kernel
theorem dX9_sideOfAll_58 : decode cX9_sideOfAll 58 = .ok (.istore_n 3, 1) := by decide +kernel
theorem dX9_sideOfAll_59 : decode cX9_sideOfAll 59 = .ok (.iload_n 0, 1) := by decide +kernel
theorem dX9_sideOfAll_60 : decode cX9_sideOfAll 60 = .ok (.iload 4, 2) := by decide +kernel
theorem dX9_sideOfAll_62 : decode cX9_sideOfAll 62 = .ok (.invokestatic 61, 3) := by decide +kernel
theorem dX9_sideOfAll_65 : decode cX9_sideOfAll 65 = .ok (.istore_n 2, 1) := by decide +kernel
theorem dX9_sideOfAll_66 : decode cX9_sideOfAll 66 = .ok (.iinc 4 1, 3) := by decide +kernel
theorem dX9_sideOfAll_69 : decode cX9_sideOfAll 69 = .ok (.goto (-50), 3) := by decide +kernel
theorem dX9_sideOfAll_72 : decode cX9_sideOfAll 72 = .ok (.iload_n 3, 1) := by decide +kernel
theorem dX9_sideOfAll_73 : decode cX9_sideOfAll 73 = .ok (.ifCond .eq 7, 3) := by decide +kernel
theorem dX9_sideOfAll_76 : decode cX9_sideOfAll 76 = .ok (.iload_n 2, 1) := by decide +kernel
theorem dX9_sideOfAll_77 : decode cX9_sideOfAll 77 = .ok (.goto 4, 3) := by decide +kernel
theorem dX9_sideOfAll_80 : decode cX9_sideOfAll 80 = .ok (.iconst (-1), 1) := by decide +kernel
theorem dX9_sideOfAll_81 : decode cX9_sideOfAll 81 = .ok (.ireturn, 1) := by decide +kernel
theorem dX9_addRecording_0 : decode cX9_addRecording 0 = .ok (.aload_n 0, 1) := by decide +kernel
theorem dX9_addRecording_1 : decode cX9_addRecording 1 = .ok (.iconst 1, 1) := by decide +kernel
theorem dX9_addRecording_2 : decode cX9_addRecording 2 = .ok (.iload_n 1, 1) := by decide +kernel
theorem dX9_addRecording_3 : decode cX9_addRecording 3 = .ok (.invokevirtual 64, 3) := by decide +kernel
theorem dX9_addRecording_6 : decode cX9_addRecording 6 = .ok (.ifCond .ne 5, 3) := by decide +kernel
theorem dX9_addRecording_9 : decode cX9_addRecording 9 = .ok (.iconst (-1), 1) := by decide +kernel
theorem dX9_addRecording_10 : decode cX9_addRecording 10 = .ok (.ireturn, 1) := by decide +kernel
theorem dX9_addRecording_11 : decode cX9_addRecording 11 = .ok (.bipush 24, 2) := by decide +kernel
theorem dX9_addRecording_13 : decode cX9_addRecording 13 = .ok (.iconst 5, 1) := by decide +kernel
theorem dX9_addRecording_14 : decode cX9_addRecording 14 = .ok (.iload_n 1, 1) := by decide +kernel
theorem dX9_addRecording_15 : decode cX9_addRecording 15 = .ok (.imul, 1) := by decide +kernel
theorem dX9_addRecording_16 : decode cX9_addRecording 16 = .ok (.iadd, 1) := by decide +kernel
theorem dX9_addRecording_17 : decode cX9_addRecording 17 = .ok (.istore 5, 2) := by decide +kernel
theorem dX9_addRecording_19 : decode cX9_addRecording 19 = .ok (.aload_n 0, 1) := by decide +kernel
theorem dX9_addRecording_20 : decode cX9_addRecording 20 = .ok (.getfield 7, 3) := by decide +kernel
theorem dX9_addRecording_23 : decode cX9_addRecording 23 = .ok (.iload 5, 2) := by decide +kernel
theorem dX9_addRecording_25 : decode cX9_addRecording 25 = .ok (.iconst 2, 1) := by decide +kernel
theorem dX9_addRecording_26 : decode cX9_addRecording 26 = .ok (.iadd, 1) := by decide +kernel
theorem dX9_addRecording_27 : decode cX9_addRecording 27 = .ok (.iaload, 1) := by decide +kernel
theorem dX9_addRecording_28 : decode cX9_addRecording 28 = .ok (.iload_n 2, 1) := by decide +kernel
theorem dX9_addRecording_29 : decode cX9_addRecording 29 = .ok (.invokestatic 67, 3) := by decide +kernel
theorem dX9_addRecording_32 : decode cX9_addRecording 32 = .ok (.ifCond .lt 27, 3) := by decide +kernel
theorem dX9_addRecording_35 : decode cX9_addRecording 35 = .ok (.iload_n 3, 1) := by decide +kernel
theorem dX9_addRecording_36 : decode cX9_addRecording 36 = .ok (.ifCond .lt 23, 3) := by decide +kernel
theorem dX9_addRecording_39 : decode cX9_addRecording 39 = .ok (.iload 4, 2) := by decide +kernel
theorem dX9_addRecording_41 : decode cX9_addRecording 41 = .ok (.iload_n 3, 1) := by decide +kernel
theorem dX9_addRecording_42 : decode cX9_addRecording 42 = .ok (.if_icmp .le 17, 3) := by decide +kernel
theorem dX9_addRecording_45 : decode cX9_addRecording 45 = .ok (.iload 4, 2) := by decide +kernel
theorem dX9_addRecording_47 : decode cX9_addRecording 47 = .ok (.aload_n 0, 1) := by decide +kernel
theorem dX9_addRecording_48 : decode cX9_addRecording 48 = .ok (.getfield 7, 3) := by decide +kernel
theorem dX9_addRecording_51 : decode cX9_addRecording 51 = .ok (.iload 5, 2) := by decide +kernel
theorem dX9_addRecording_53 : decode cX9_addRecording 53 = .ok (.iconst 3, 1) := by decide +kernel
theorem dX9_addRecording_54 : decode cX9_addRecording 54 = .ok (.iadd, 1) := by decide +kernel
theorem dX9_addRecording_55 : decode cX9_addRecording 55 = .ok (.iaload, 1) := by decide +kernel
theorem dX9_addRecording_56 : decode cX9_addRecording 56 = .ok (.if_icmp .le 6, 3) := by decide +kernel
theorem dX9_addRecording_59 : decode cX9_addRecording 59 = .ok (.bipush (-2), 2) := by decide +kernel
theorem dX9_addRecording_61 : decode cX9_addRecording 61 = .ok (.ireturn, 1) := by decide +kernel
theorem dX9_addRecording_62 : decode cX9_addRecording 62 = .ok (.aload_n 0, 1) := by decide +kernel
theorem dX9_addRecording_63 : decode cX9_addRecording 63 = .ok (.getfield 7, 3) := by decide +kernel
theorem dX9_addRecording_66 : decode cX9_addRecording 66 = .ok (.iconst 3, 1) := by decide +kernel
theorem dX9_addRecording_67 : decode cX9_addRecording 67 = .ok (.iaload, 1) := by decide +kernel
theorem dX9_addRecording_68 : decode cX9_addRecording 68 = .ok (.bipush 16, 2) := by decide +kernel
theorem dX9_addRecording_70 : decode cX9_addRecording 70 = .ok (.if_icmp .ne 6, 3) := by decide +kernel
theorem dX9_addRecording_73 : decode cX9_addRecording 73 = .ok (.bipush (-4), 2) := by decide +kernel
theorem dX9_addRecording_75 : decode cX9_addRecording 75 = .ok (.ireturn, 1) := by decide +kernel
theorem dX9_addRecording_76 : decode cX9_addRecording 76 = .ok (.iconst 0, 1) := by decide +kernel
theorem dX9_addRecording_77 : decode cX9_addRecording 77 = .ok (.istore 6, 2) := by decide +kernel
theorem dX9_addRecording_79 : decode cX9_addRecording 79 = .ok (.iload 6, 2) := by decide +kernel
theorem dX9_addRecording_81 : decode cX9_addRecording 81 = .ok (.aload_n 0, 1) := by decide +kernel
theorem dX9_addRecording_82 : decode cX9_addRecording 82 = .ok (.getfield 7, 3) := by decide +kernel
theorem dX9_addRecording_85 : decode cX9_addRecording 85 = .ok (.iconst 3, 1) := by decide +kernel
theorem dX9_addRecording_86 : decode cX9_addRecording 86 = .ok (.iaload, 1) := by decide +kernel
theorem dX9_addRecording_87 : decode cX9_addRecording 87 = .ok (.if_icmp .ge 73, 3) := by decide +kernel
theorem dX9_addRecording_90 : decode cX9_addRecording 90 = .ok (.bipush 84, 2) := by decide +kernel
theorem dX9_addRecording_92 : decode cX9_addRecording 92 = .ok (.iconst 5, 1) := by decide +kernel
theorem dX9_addRecording_93 : decode cX9_addRecording 93 = .ok (.iload 6, 2) := by decide +kernel
theorem dX9_addRecording_95 : decode cX9_addRecording 95 = .ok (.imul, 1) := by decide +kernel
theorem dX9_addRecording_96 : decode cX9_addRecording 96 = .ok (.iadd, 1) := by decide +kernel
theorem dX9_addRecording_97 : decode cX9_addRecording 97 = .ok (.istore 7, 2) := by decide +kernel
theorem dX9_addRecording_99 : decode cX9_addRecording 99 = .ok (.aload_n 0, 1) := by decide +kernel
theorem dX9_addRecording_100 : decode cX9_addRecording 100 = .ok (.getfield 7, 3) := by decide +kernel
theorem dX9_addRecording_103 : decode cX9_addRecording 103 = .ok (.iload 7, 2) := by decide +kernel
theorem dX9_addRecording_105 : decode cX9_addRecording 105 = .ok (.iaload, 1) := by decide +kernel
theorem dX9_addRecording_106 : decode cX9_addRecording 106 = .ok (.iload_n 1, 1) := by decide +kernel
theorem dX9_addRecording_107 : decode cX9_addRecording 107 = .ok (.if_icmp .ne 47, 3) := by decide +kernel
theorem dX9_addRecording_110 : decode cX9_addRecording 110 = .ok (.aload_n 0, 1) := by decide +kernel
theorem dX9_addRecording_111 : decode cX9_addRecording 111 = .ok (.getfield 7, 3) := by decide +kernel
theorem dX9_addRecording_114 : decode cX9_addRecording 114 = .ok (.iload 7, 2) := by decide +kernel
theorem dX9_addRecording_116 : decode cX9_addRecording 116 = .ok (.iconst 1, 1) := by decide +kernel
theorem dX9_addRecording_117 : decode cX9_addRecording 117 = .ok (.iadd, 1) := by decide +kernel
theorem dX9_addRecording_118 : decode cX9_addRecording 118 = .ok (.iaload, 1) := by decide +kernel
theorem dX9_addRecording_119 : decode cX9_addRecording 119 = .ok (.iload_n 2, 1) := by decide +kernel
theorem dX9_addRecording_120 : decode cX9_addRecording 120 = .ok (.iand, 1) := by decide +kernel
theorem dX9_addRecording_121 : decode cX9_addRecording 121 = .ok (.ifCond .eq 33, 3) := by decide +kernel
theorem dX9_addRecording_124 : decode cX9_addRecording 124 = .ok (.aload_n 0, 1) := by decide +kernel
theorem dX9_addRecording_125 : decode cX9_addRecording 125 = .ok (.getfield 7, 3) := by decide +kernel
theorem dX9_addRecording_128 : decode cX9_addRecording 128 = .ok (.iload 7, 2) := by decide +kernel
theorem dX9_addRecording_130 : decode cX9_addRecording 130 = .ok (.iconst 2, 1) := by decide +kernel
theorem dX9_addRecording_131 : decode cX9_addRecording 131 = .ok (.iadd, 1) := by decide +kernel
theorem dX9_addRecording_132 : decode cX9_addRecording 132 = .ok (.iaload, 1) := by decide +kernel
theorem dX9_addRecording_133 : decode cX9_addRecording 133 = .ok (.iload 4, 2) := by decide +kernel
theorem dX9_addRecording_135 : decode cX9_addRecording 135 = .ok (.if_icmp .ge 19, 3) := by decide +kernel
theorem dX9_addRecording_138 : decode cX9_addRecording 138 = .ok (.iload_n 3, 1) := by decide +kernel
theorem dX9_addRecording_139 : decode cX9_addRecording 139 = .ok (.aload_n 0, 1) := by decide +kernel
theorem dX9_addRecording_140 : decode cX9_addRecording 140 = .ok (.getfield 7, 3) := by decide +kernel
theorem dX9_addRecording_143 : decode cX9_addRecording 143 = .ok (.iload 7, 2) := by decide +kernel
theorem dX9_addRecording_145 : decode cX9_addRecording 145 = .ok (.iconst 3, 1) := by decide +kernel
theorem dX9_addRecording_146 : decode cX9_addRecording 146 = .ok (.iadd, 1) := by decide +kernel
theorem dX9_addRecording_147 : decode cX9_addRecording 147 = .ok (.iaload, 1) := by decide +kernel
theorem dX9_addRecording_148 : decode cX9_addRecording 148 = .ok (.if_icmp .ge 6, 3) := by decide +kernel
theorem dX9_addRecording_151 : decode cX9_addRecording 151 = .ok (.bipush (-3), 2) := by decide +kernel
theorem dX9_addRecording_153 : decode cX9_addRecording 153 = .ok (.ireturn, 1) := by decide +kernel
theorem dX9_addRecording_154 : decode cX9_addRecording 154 = .ok (.iinc 6 1, 3) := by decide +kernel
theorem dX9_addRecording_157 : decode cX9_addRecording 157 = .ok (.goto (-78), 3) := by decide +kernel
theorem dX9_addRecording_160 : decode cX9_addRecording 160 = .ok (.aload_n 0, 1) := by decide +kernel
theorem dX9_addRecording_161 : decode cX9_addRecording 161 = .ok (.invokevirtual 54, 3) := by decide +kernel
theorem dX9_addRecording_164 : decode cX9_addRecording 164 = .ok (.bipush 84, 2) := by decide +kernel
theorem dX9_addRecording_166 : decode cX9_addRecording 166 = .ok (.iconst 5, 1) := by decide +kernel
theorem dX9_addRecording_167 : decode cX9_addRecording 167 = .ok (.aload_n 0, 1) := by decide +kernel
theorem dX9_addRecording_168 : decode cX9_addRecording 168 = .ok (.getfield 7, 3) := by decide +kernel
theorem dX9_addRecording_171 : decode cX9_addRecording 171 = .ok (.iconst 3, 1) := by decide +kernel
theorem dX9_addRecording_172 : decode cX9_addRecording 172 = .ok (.iaload, 1) := by decide +kernel
theorem dX9_addRecording_173 : decode cX9_addRecording 173 = .ok (.imul, 1) := by decide +kernel
theorem dX9_addRecording_174 : decode cX9_addRecording 174 = .ok (.iadd, 1) := by decide +kernel
theorem dX9_addRecording_175 : decode cX9_addRecording 175 = .ok (.istore 6, 2) := by decide +kernel
theorem dX9_addRecording_177 : decode cX9_addRecording 177 = .ok (.aload_n 0, 1) := by decide +kernel
theorem dX9_addRecording_178 : decode cX9_addRecording 178 = .ok (.getfield 7, 3) := by decide +kernel
theorem dX9_addRecording_181 : decode cX9_addRecording 181 = .ok (.iload 6, 2) := by decide +kernel
theorem dX9_addRecording_183 : decode cX9_addRecording 183 = .ok (.iload_n 1, 1) := by decide +kernel
theorem dX9_addRecording_184 : decode cX9_addRecording 184 = .ok (.iastore, 1) := by decide +kernel
theorem dX9_addRecording_185 : decode cX9_addRecording 185 = .ok (.aload_n 0, 1) := by decide +kernel
theorem dX9_addRecording_186 : decode cX9_addRecording 186 = .ok (.getfield 7, 3) := by decide +kernel
theorem dX9_addRecording_189 : decode cX9_addRecording 189 = .ok (.iload 6, 2) := by decide +kernel
theorem dX9_addRecording_191 : decode cX9_addRecording 191 = .ok (.iconst 1, 1) := by decide +kernel
theorem dX9_addRecording_192 : decode cX9_addRecording 192 = .ok (.iadd, 1) := by decide +kernel
theorem dX9_addRecording_193 : decode cX9_addRecording 193 = .ok (.iload_n 2, 1) := by decide +kernel
theorem dX9_addRecording_194 : decode cX9_addRecording 194 = .ok (.iastore, 1) := by decide +kernel
theorem dX9_addRecording_195 : decode cX9_addRecording 195 = .ok (.aload_n 0, 1) := by decide +kernel
theorem dX9_addRecording_196 : decode cX9_addRecording 196 = .ok (.getfield 7, 3) := by decide +kernel
theorem dX9_addRecording_199 : decode cX9_addRecording 199 = .ok (.iload 6, 2) := by decide +kernel
theorem dX9_addRecording_201 : decode cX9_addRecording 201 = .ok (.iconst 2, 1) := by decide +kernel
theorem dX9_addRecording_202 : decode cX9_addRecording 202 = .ok (.iadd, 1) := by decide +kernel
theorem dX9_addRecording_203 : decode cX9_addRecording 203 = .ok (.iload_n 3, 1) := by decide +kernel
theorem dX9_addRecording_204 : decode cX9_addRecording 204 = .ok (.iastore, 1) := by decide +kernel
theorem dX9_addRecording_205 : decode cX9_addRecording 205 = .ok (.aload_n 0, 1) := by decide +kernel
theorem dX9_addRecording_206 : decode cX9_addRecording 206 = .ok (.getfield 7, 3) := by decide +kernel
theorem dX9_addRecording_209 : decode cX9_addRecording 209 = .ok (.iload 6, 2) := by decide +kernel
theorem dX9_addRecording_211 : decode cX9_addRecording 211 = .ok (.iconst 3, 1) := by decide +kernel
theorem dX9_addRecording_212 : decode cX9_addRecording 212 = .ok (.iadd, 1) := by decide +kernel
theorem dX9_addRecording_213 : decode cX9_addRecording 213 = .ok (.iload 4, 2) := by decide +kernel
theorem dX9_addRecording_215 : decode cX9_addRecording 215 = .ok (.iastore, 1) := by decide +kernel
theorem dX9_addRecording_216 : decode cX9_addRecording 216 = .ok (.aload_n 0, 1) := by decide +kernel
theorem dX9_addRecording_217 : decode cX9_addRecording 217 = .ok (.getfield 7, 3) := by decide +kernel
theorem dX9_addRecording_220 : decode cX9_addRecording 220 = .ok (.iload 6, 2) := by decide +kernel
theorem dX9_addRecording_222 : decode cX9_addRecording 222 = .ok (.iconst 4, 1) := by decide +kernel
theorem dX9_addRecording_223 : decode cX9_addRecording 223 = .ok (.iadd, 1) := by decide +kernel
theorem dX9_addRecording_224 : decode cX9_addRecording 224 = .ok (.iconst 0, 1) := by decide +kernel
theorem dX9_addRecording_225 : decode cX9_addRecording 225 = .ok (.iastore, 1) := by decide +kernel
theorem dX9_addRecording_226 : decode cX9_addRecording 226 = .ok (.aload_n 0, 1) := by decide +kernel
theorem dX9_addRecording_227 : decode cX9_addRecording 227 = .ok (.getfield 7, 3) := by decide +kernel
theorem dX9_addRecording_230 : decode cX9_addRecording 230 = .ok (.iconst 3, 1) := by decide +kernel
theorem dX9_addRecording_231 : decode cX9_addRecording 231 = .ok (.dup2, 1) := by decide +kernel
theorem dX9_addRecording_232 : decode cX9_addRecording 232 = .ok (.iaload, 1) := by decide +kernel
theorem dX9_addRecording_233 : decode cX9_addRecording 233 = .ok (.iconst 1, 1) := by decide +kernel
theorem dX9_addRecording_234 : decode cX9_addRecording 234 = .ok (.iadd, 1) := by decide +kernel
theorem dX9_addRecording_235 : decode cX9_addRecording 235 = .ok (.iastore, 1) := by decide +kernel
theorem dX9_addRecording_236 : decode cX9_addRecording 236 = .ok (.aload_n 0, 1) := by decide +kernel
theorem dX9_addRecording_237 : decode cX9_addRecording 237 = .ok (.getfield 7, 3) := by decide +kernel
theorem dX9_addRecording_240 : decode cX9_addRecording 240 = .ok (.iconst 3, 1) := by decide +kernel
theorem dX9_addRecording_241 : decode cX9_addRecording 241 = .ok (.iaload, 1) := by decide +kernel
theorem dX9_addRecording_242 : decode cX9_addRecording 242 = .ok (.iconst 1, 1) := by decide +kernel
theorem dX9_addRecording_243 : decode cX9_addRecording 243 = .ok (.isub, 1) := by decide +kernel
theorem dX9_addRecording_244 : decode cX9_addRecording 244 = .ok (.ireturn, 1) := by decide +kernel
theorem dX9_isExcerpt_0 : decode cX9_isExcerpt 0 = .ok (.bipush 84, 2) := by decide +kernel
theorem dX9_isExcerpt_2 : decode cX9_isExcerpt 2 = .ok (.iconst 5, 1) := by decide +kernel
theorem dX9_isExcerpt_3 : decode cX9_isExcerpt 3 = .ok (.iload_n 1, 1) := by decide +kernel
theorem dX9_isExcerpt_4 : decode cX9_isExcerpt 4 = .ok (.imul, 1) := by decide +kernel
theorem dX9_isExcerpt_5 : decode cX9_isExcerpt 5 = .ok (.iadd, 1) := by decide +kernel
theorem dX9_isExcerpt_6 : decode cX9_isExcerpt 6 = .ok (.istore 4, 2) := by decide +kernel
theorem dX9_isExcerpt_8 : decode cX9_isExcerpt 8 = .ok (.iload_n 2, 1) := by decide +kernel
theorem dX9_isExcerpt_9 : decode cX9_isExcerpt 9 = .ok (.ifCond .lt 35, 3) := by decide +kernel
theorem dX9_isExcerpt_12 : decode cX9_isExcerpt 12 = .ok (.iload_n 3, 1) := by decide +kernel
theorem dX9_isExcerpt_13 : decode cX9_isExcerpt 13 = .ok (.iload_n 2, 1) := by decide +kernel
theorem dX9_isExcerpt_14 : decode cX9_isExcerpt 14 = .ok (.if_icmp .le 30, 3) := by decide +kernel
theorem dX9_isExcerpt_17 : decode cX9_isExcerpt 17 = .ok (.iload_n 3, 1) := by decide +kernel
theorem dX9_isExcerpt_18 : decode cX9_isExcerpt 18 = .ok (.aload_n 0, 1) := by decide +kernel
theorem dX9_isExcerpt_19 : decode cX9_isExcerpt 19 = .ok (.getfield 7, 3) := by decide +kernel
theorem dX9_isExcerpt_22 : decode cX9_isExcerpt 22 = .ok (.iload 4, 2) := by decide +kernel
theorem dX9_isExcerpt_24 : decode cX9_isExcerpt 24 = .ok (.iconst 3, 1) := by decide +kernel
theorem dX9_isExcerpt_25 : decode cX9_isExcerpt 25 = .ok (.iadd, 1) := by decide +kernel
theorem dX9_isExcerpt_26 : decode cX9_isExcerpt 26 = .ok (.iaload, 1) := by decide +kernel
theorem dX9_isExcerpt_27 : decode cX9_isExcerpt 27 = .ok (.aload_n 0, 1) := by decide +kernel
theorem dX9_isExcerpt_28 : decode cX9_isExcerpt 28 = .ok (.getfield 7, 3) := by decide +kernel
theorem dX9_isExcerpt_31 : decode cX9_isExcerpt 31 = .ok (.iload 4, 2) := by decide +kernel
theorem dX9_isExcerpt_33 : decode cX9_isExcerpt 33 = .ok (.iconst 2, 1) := by decide +kernel
theorem dX9_isExcerpt_34 : decode cX9_isExcerpt 34 = .ok (.iadd, 1) := by decide +kernel
theorem dX9_isExcerpt_35 : decode cX9_isExcerpt 35 = .ok (.iaload, 1) := by decide +kernel
theorem dX9_isExcerpt_36 : decode cX9_isExcerpt 36 = .ok (.isub, 1) := by decide +kernel
theorem dX9_isExcerpt_37 : decode cX9_isExcerpt 37 = .ok (.if_icmp .gt 7, 3) := by decide +kernel
theorem dX9_isExcerpt_40 : decode cX9_isExcerpt 40 = .ok (.iconst 1, 1) := by decide +kernel
theorem dX9_isExcerpt_41 : decode cX9_isExcerpt 41 = .ok (.goto 4, 3) := by decide +kernel
theorem dX9_isExcerpt_44 : decode cX9_isExcerpt 44 = .ok (.iconst 0, 1) := by decide +kernel
theorem dX9_isExcerpt_45 : decode cX9_isExcerpt 45 = .ok (.ireturn, 1) := by decide +kernel
theorem dX9_addPart_0 : decode cX9_addPart 0 = .ok (.aload_n 0, 1) := by decide +kernel
theorem dX9_addPart_1 : decode cX9_addPart 1 = .ok (.iconst 3, 1) := by decide +kernel
theorem dX9_addPart_2 : decode cX9_addPart 2 = .ok (.iload_n 1, 1) := by decide +kernel
theorem dX9_addPart_3 : decode cX9_addPart 3 = .ok (.invokevirtual 64, 3) := by decide +kernel
theorem dX9_addPart_6 : decode cX9_addPart 6 = .ok (.ifCond .ne 5, 3) := by decide +kernel
theorem dX9_addPart_9 : decode cX9_addPart 9 = .ok (.iconst (-1), 1) := by decide +kernel
theorem dX9_addPart_10 : decode cX9_addPart 10 = .ok (.ireturn, 1) := by decide +kernel
theorem dX9_addPart_11 : decode cX9_addPart 11 = .ok (.aload_n 0, 1) := by decide +kernel
theorem dX9_addPart_12 : decode cX9_addPart 12 = .ok (.iload_n 1, 1) := by decide +kernel
theorem dX9_addPart_13 : decode cX9_addPart 13 = .ok (.iload_n 2, 1) := by decide +kernel
theorem dX9_addPart_14 : decode cX9_addPart 14 = .ok (.iload_n 3, 1) := by decide +kernel
theorem dX9_addPart_15 : decode cX9_addPart 15 = .ok (.invokevirtual 70, 3) := by decide +kernel
theorem dX9_addPart_18 : decode cX9_addPart 18 = .ok (.ifCond .eq 26, 3) := by decide +kernel
theorem dX9_addPart_21 : decode cX9_addPart 21 = .ok (.iload 4, 2) := by decide +kernel
theorem dX9_addPart_23 : decode cX9_addPart 23 = .ok (.iconst 0, 1) := by decide +kernel
theorem dX9_addPart_24 : decode cX9_addPart 24 = .ok (.bipush 7, 2) := by decide +kernel
theorem dX9_addPart_26 : decode cX9_addPart 26 = .ok (.invokestatic 42, 3) := by decide +kernel
theorem dX9_addPart_29 : decode cX9_addPart 29 = .ok (.ifCond .eq 15, 3) := by decide +kernel
theorem dX9_addPart_32 : decode cX9_addPart 32 = .ok (.iload 5, 2) := by decide +kernel
theorem dX9_addPart_34 : decode cX9_addPart 34 = .ok (.iconst 0, 1) := by decide +kernel
theorem dX9_addPart_35 : decode cX9_addPart 35 = .ok (.sipush 9999, 3) := by decide +kernel
theorem dX9_addPart_38 : decode cX9_addPart 38 = .ok (.invokestatic 42, 3) := by decide +kernel
theorem dX9_addPart_41 : decode cX9_addPart 41 = .ok (.ifCond .ne 6, 3) := by decide +kernel
theorem dX9_addPart_44 : decode cX9_addPart 44 = .ok (.bipush (-2), 2) := by decide +kernel
theorem dX9_addPart_46 : decode cX9_addPart 46 = .ok (.ireturn, 1) := by decide +kernel
theorem dX9_addPart_47 : decode cX9_addPart 47 = .ok (.aload_n 0, 1) := by decide +kernel
theorem dX9_addPart_48 : decode cX9_addPart 48 = .ok (.getfield 7, 3) := by decide +kernel
theorem dX9_addPart_51 : decode cX9_addPart 51 = .ok (.bipush 84, 2) := by decide +kernel
theorem dX9_addPart_53 : decode cX9_addPart 53 = .ok (.iconst 5, 1) := by decide +kernel
theorem dX9_addPart_54 : decode cX9_addPart 54 = .ok (.iload_n 1, 1) := by decide +kernel
theorem dX9_addPart_55 : decode cX9_addPart 55 = .ok (.imul, 1) := by decide +kernel
theorem dX9_addPart_56 : decode cX9_addPart 56 = .ok (.iadd, 1) := by decide +kernel
theorem dX9_addPart_57 : decode cX9_addPart 57 = .ok (.iconst 4, 1) := by decide +kernel
theorem dX9_addPart_58 : decode cX9_addPart 58 = .ok (.iadd, 1) := by decide +kernel
theorem dX9_addPart_59 : decode cX9_addPart 59 = .ok (.iaload, 1) := by decide +kernel
theorem dX9_addPart_60 : decode cX9_addPart 60 = .ok (.istore 6, 2) := by decide +kernel
theorem dX9_addPart_62 : decode cX9_addPart 62 = .ok (.iload 6, 2) := by decide +kernel
theorem dX9_addPart_64 : decode cX9_addPart 64 = .ok (.iconst 4, 1) := by decide +kernel
theorem dX9_addPart_65 : decode cX9_addPart 65 = .ok (.if_icmp .ne 6, 3) := by decide +kernel
theorem dX9_addPart_68 : decode cX9_addPart 68 = .ok (.bipush (-4), 2) := by decide +kernel
theorem dX9_addPart_70 : decode cX9_addPart 70 = .ok (.ireturn, 1) := by decide +kernel
theorem dX9_addPart_71 : decode cX9_addPart 71 = .ok (.aload_n 0, 1) := by decide +kernel
theorem dX9_addPart_72 : decode cX9_addPart 72 = .ok (.invokevirtual 54, 3) := by decide +kernel
theorem dX9_addPart_75 : decode cX9_addPart 75 = .ok (.sipush 164, 3) := by decide +kernel
theorem dX9_addPart_78 : decode cX9_addPart 78 = .ok (.bipush 16, 2) := by decide +kernel
theorem dX9_addPart_80 : decode cX9_addPart 80 = .ok (.iload_n 1, 1) := by decide +kernel
theorem dX9_addPart_81 : decode cX9_addPart 81 = .ok (.imul, 1) := by decide +kernel
theorem dX9_addPart_82 : decode cX9_addPart 82 = .ok (.iadd, 1) := by decide +kernel
theorem dX9_addPart_83 : decode cX9_addPart 83 = .ok (.iconst 4, 1) := by decide +kernel
theorem dX9_addPart_84 : decode cX9_addPart 84 = .ok (.iload 6, 2) := by decide +kernel
theorem dX9_addPart_86 : decode cX9_addPart 86 = .ok (.imul, 1) := by decide +kernel
theorem dX9_addPart_87 : decode cX9_addPart 87 = .ok (.iadd, 1) := by decide +kernel
theorem dX9_addPart_88 : decode cX9_addPart 88 = .ok (.istore 7, 2) := by decide +kernel
theorem dX9_addPart_90 : decode cX9_addPart 90 = .ok (.aload_n 0, 1) := by decide +kernel
theorem dX9_addPart_91 : decode cX9_addPart 91 = .ok (.getfield 7, 3) := by decide +kernel
theorem dX9_addPart_94 : decode cX9_addPart 94 = .ok (.iload 7, 2) := by decide +kernel
theorem dX9_addPart_96 : decode cX9_addPart 96 = .ok (.iload_n 2, 1) := by decide +kernel
theorem dX9_addPart_97 : decode cX9_addPart 97 = .ok (.iastore, 1) := by decide +kernel
theorem dX9_addPart_98 : decode cX9_addPart 98 = .ok (.aload_n 0, 1) := by decide +kernel
theorem dX9_addPart_99 : decode cX9_addPart 99 = .ok (.getfield 7, 3) := by decide +kernel
theorem dX9_addPart_102 : decode cX9_addPart 102 = .ok (.iload 7, 2) := by decide +kernel
theorem dX9_addPart_104 : decode cX9_addPart 104 = .ok (.iconst 1, 1) := by decide +kernel
theorem dX9_addPart_105 : decode cX9_addPart 105 = .ok (.iadd, 1) := by decide +kernel
theorem dX9_addPart_106 : decode cX9_addPart 106 = .ok (.iload_n 3, 1) := by decide +kernel
theorem dX9_addPart_107 : decode cX9_addPart 107 = .ok (.iastore, 1) := by decide +kernel
theorem dX9_addPart_108 : decode cX9_addPart 108 = .ok (.aload_n 0, 1) := by decide +kernel
theorem dX9_addPart_109 : decode cX9_addPart 109 = .ok (.getfield 7, 3) := by decide +kernel
theorem dX9_addPart_112 : decode cX9_addPart 112 = .ok (.iload 7, 2) := by decide +kernel
theorem dX9_addPart_114 : decode cX9_addPart 114 = .ok (.iconst 2, 1) := by decide +kernel
theorem dX9_addPart_115 : decode cX9_addPart 115 = .ok (.iadd, 1) := by decide +kernel
theorem dX9_addPart_116 : decode cX9_addPart 116 = .ok (.iload 4, 2) := by decide +kernel
theorem dX9_addPart_118 : decode cX9_addPart 118 = .ok (.iastore, 1) := by decide +kernel
theorem dX9_addPart_119 : decode cX9_addPart 119 = .ok (.aload_n 0, 1) := by decide +kernel
theorem dX9_addPart_120 : decode cX9_addPart 120 = .ok (.getfield 7, 3) := by decide +kernel
theorem dX9_addPart_123 : decode cX9_addPart 123 = .ok (.iload 7, 2) := by decide +kernel
theorem dX9_addPart_125 : decode cX9_addPart 125 = .ok (.iconst 3, 1) := by decide +kernel
theorem dX9_addPart_126 : decode cX9_addPart 126 = .ok (.iadd, 1) := by decide +kernel
theorem dX9_addPart_127 : decode cX9_addPart 127 = .ok (.iload 5, 2) := by decide +kernel
theorem dX9_addPart_129 : decode cX9_addPart 129 = .ok (.iastore, 1) := by decide +kernel
theorem dX9_addPart_130 : decode cX9_addPart 130 = .ok (.aload_n 0, 1) := by decide +kernel
theorem dX9_addPart_131 : decode cX9_addPart 131 = .ok (.getfield 7, 3) := by decide +kernel
theorem dX9_addPart_134 : decode cX9_addPart 134 = .ok (.bipush 84, 2) := by decide +kernel
theorem dX9_addPart_136 : decode cX9_addPart 136 = .ok (.iconst 5, 1) := by decide +kernel
theorem dX9_addPart_137 : decode cX9_addPart 137 = .ok (.iload_n 1, 1) := by decide +kernel
theorem dX9_addPart_138 : decode cX9_addPart 138 = .ok (.imul, 1) := by decide +kernel
theorem dX9_addPart_139 : decode cX9_addPart 139 = .ok (.iadd, 1) := by decide +kernel
theorem dX9_addPart_140 : decode cX9_addPart 140 = .ok (.iconst 4, 1) := by decide +kernel
theorem dX9_addPart_141 : decode cX9_addPart 141 = .ok (.iadd, 1) := by decide +kernel
theorem dX9_addPart_142 : decode cX9_addPart 142 = .ok (.dup2, 1) := by decide +kernel
theorem dX9_addPart_143 : decode cX9_addPart 143 = .ok (.iaload, 1) := by decide +kernel
theorem dX9_addPart_144 : decode cX9_addPart 144 = .ok (.iconst 1, 1) := by decide +kernel
theorem dX9_addPart_145 : decode cX9_addPart 145 = .ok (.iadd, 1) := by decide +kernel
theorem dX9_addPart_146 : decode cX9_addPart 146 = .ok (.iastore, 1) := by decide +kernel
theorem dX9_addPart_147 : decode cX9_addPart 147 = .ok (.iload 6, 2) := by decide +kernel
theorem dX9_addPart_149 : decode cX9_addPart 149 = .ok (.ireturn, 1) := by decide +kernel
theorem dX9_passesOf_0 : decode cX9_passesOf 0 = .ok (.iconst 0, 1) := by decide +kernel
theorem dX9_passesOf_1 : decode cX9_passesOf 1 = .ok (.istore_n 2, 1) := by decide +kernel
theorem dX9_passesOf_2 : decode cX9_passesOf 2 = .ok (.iconst 0, 1) := by decide +kernel
theorem dX9_passesOf_3 : decode cX9_passesOf 3 = .ok (.istore_n 3, 1) := by decide +kernel
theorem dX9_passesOf_4 : decode cX9_passesOf 4 = .ok (.iload_n 3, 1) := by decide +kernel
theorem dX9_passesOf_5 : decode cX9_passesOf 5 = .ok (.aload_n 0, 1) := by decide +kernel
theorem dX9_passesOf_6 : decode cX9_passesOf 6 = .ok (.getfield 7, 3) := by decide +kernel
theorem dX9_passesOf_9 : decode cX9_passesOf 9 = .ok (.iconst 4, 1) := by decide +kernel
theorem dX9_passesOf_10 : decode cX9_passesOf 10 = .ok (.iaload, 1) := by decide +kernel
theorem dX9_passesOf_11 : decode cX9_passesOf 11 = .ok (.if_icmp .ge 34, 3) := by decide +kernel
theorem dX9_passesOf_14 : decode cX9_passesOf 14 = .ok (.iload_n 2, 1) := by decide +kernel
theorem dX9_passesOf_15 : decode cX9_passesOf 15 = .ok (.aload_n 0, 1) := by decide +kernel
theorem dX9_passesOf_16 : decode cX9_passesOf 16 = .ok (.getfield 7, 3) := by decide +kernel
theorem dX9_passesOf_19 : decode cX9_passesOf 19 = .ok (.sipush 420, 3) := by decide +kernel
theorem dX9_passesOf_22 : decode cX9_passesOf 22 = .ok (.bipush 9, 2) := by decide +kernel
theorem dX9_passesOf_24 : decode cX9_passesOf 24 = .ok (.iload_n 3, 1) := by decide +kernel
theorem dX9_passesOf_25 : decode cX9_passesOf 25 = .ok (.imul, 1) := by decide +kernel
theorem dX9_passesOf_26 : decode cX9_passesOf 26 = .ok (.iadd, 1) := by decide +kernel
theorem dX9_passesOf_27 : decode cX9_passesOf 27 = .ok (.iaload, 1) := by decide +kernel
theorem dX9_passesOf_28 : decode cX9_passesOf 28 = .ok (.iload_n 1, 1) := by decide +kernel
theorem dX9_passesOf_29 : decode cX9_passesOf 29 = .ok (.if_icmp .ne 7, 3) := by decide +kernel
theorem dX9_passesOf_32 : decode cX9_passesOf 32 = .ok (.iconst 1, 1) := by decide +kernel
theorem dX9_passesOf_33 : decode cX9_passesOf 33 = .ok (.goto 4, 3) := by decide +kernel
theorem dX9_passesOf_36 : decode cX9_passesOf 36 = .ok (.iconst 0, 1) := by decide +kernel
theorem dX9_passesOf_37 : decode cX9_passesOf 37 = .ok (.iadd, 1) := by decide +kernel
theorem dX9_passesOf_38 : decode cX9_passesOf 38 = .ok (.istore_n 2, 1) := by decide +kernel
theorem dX9_passesOf_39 : decode cX9_passesOf 39 = .ok (.iinc 3 1, 3) := by decide +kernel
theorem dX9_passesOf_42 : decode cX9_passesOf 42 = .ok (.goto (-38), 3) := by decide +kernel
theorem dX9_passesOf_45 : decode cX9_passesOf 45 = .ok (.iload_n 2, 1) := by decide +kernel
theorem dX9_passesOf_46 : decode cX9_passesOf 46 = .ok (.ireturn, 1) := by decide +kernel
theorem dX9_readBy_0 : decode cX9_readBy 0 = .ok (.iconst 0, 1) := by decide +kernel
theorem dX9_readBy_1 : decode cX9_readBy 1 = .ok (.istore 5, 2) := by decide +kernel
theorem dX9_readBy_3 : decode cX9_readBy 3 = .ok (.iconst 0, 1) := by decide +kernel
theorem dX9_readBy_4 : decode cX9_readBy 4 = .ok (.istore 6, 2) := by decide +kernel
theorem dX9_readBy_6 : decode cX9_readBy 6 = .ok (.iload 6, 2) := by decide +kernel
theorem dX9_readBy_8 : decode cX9_readBy 8 = .ok (.iload_n 1, 1) := by decide +kernel
theorem dX9_readBy_9 : decode cX9_readBy 9 = .ok (.invokestatic 57, 3) := by decide +kernel
theorem dX9_readBy_12 : decode cX9_readBy 12 = .ok (.if_icmp .ge 90, 3) := by decide +kernel
theorem dX9_readBy_15 : decode cX9_readBy 15 = .ok (.iload_n 1, 1) := by decide +kernel
theorem dX9_readBy_16 : decode cX9_readBy 16 = .ok (.iload 6, 2) := by decide +kernel
theorem dX9_readBy_18 : decode cX9_readBy 18 = .ok (.invokestatic 73, 3) := by decide +kernel
theorem dX9_readBy_21 : decode cX9_readBy 21 = .ok (.istore 7, 2) := by decide +kernel
theorem dX9_readBy_23 : decode cX9_readBy 23 = .ok (.iload 4, 2) := by decide +kernel
theorem dX9_readBy_25 : decode cX9_readBy 25 = .ok (.ifCond .ne 8, 3) := by decide +kernel
theorem dX9_readBy_28 : decode cX9_readBy 28 = .ok (.iload 7, 2) := by decide +kernel
theorem dX9_readBy_30 : decode cX9_readBy 30 = .ok (.goto 8, 3) := by decide +kernel
theorem dX9_readBy_33 : decode cX9_readBy 33 = .ok (.iload 7, 2) := by decide +kernel
theorem dX9_readBy_35 : decode cX9_readBy 35 = .ok (.invokestatic 76, 3) := by decide +kernel
theorem dX9_readBy_38 : decode cX9_readBy 38 = .ok (.istore 8, 2) := by decide +kernel
theorem dX9_readBy_40 : decode cX9_readBy 40 = .ok (.iload_n 1, 1) := by decide +kernel
theorem dX9_readBy_41 : decode cX9_readBy 41 = .ok (.iload 6, 2) := by decide +kernel
theorem dX9_readBy_43 : decode cX9_readBy 43 = .ok (.invokestatic 61, 3) := by decide +kernel
theorem dX9_readBy_46 : decode cX9_readBy 46 = .ok (.ifCond .ne 20, 3) := by decide +kernel
theorem dX9_readBy_49 : decode cX9_readBy 49 = .ok (.iload 8, 2) := by decide +kernel
theorem dX9_readBy_51 : decode cX9_readBy 51 = .ok (.iload_n 2, 1) := by decide +kernel
theorem dX9_readBy_52 : decode cX9_readBy 52 = .ok (.iload_n 3, 1) := by decide +kernel
theorem dX9_readBy_53 : decode cX9_readBy 53 = .ok (.invokestatic 73, 3) := by decide +kernel
theorem dX9_readBy_56 : decode cX9_readBy 56 = .ok (.iconst (-1), 1) := by decide +kernel
theorem dX9_readBy_57 : decode cX9_readBy 57 = .ok (.ixor, 1) := by decide +kernel
theorem dX9_readBy_58 : decode cX9_readBy 58 = .ok (.iand, 1) := by decide +kernel
theorem dX9_readBy_59 : decode cX9_readBy 59 = .ok (.ifCond .ne 7, 3) := by decide +kernel
theorem dX9_readBy_62 : decode cX9_readBy 62 = .ok (.iconst 1, 1) := by decide +kernel
theorem dX9_readBy_63 : decode cX9_readBy 63 = .ok (.goto 4, 3) := by decide +kernel
theorem dX9_readBy_66 : decode cX9_readBy 66 = .ok (.iconst 0, 1) := by decide +kernel
theorem dX9_readBy_67 : decode cX9_readBy 67 = .ok (.istore 9, 2) := by decide +kernel
theorem dX9_readBy_69 : decode cX9_readBy 69 = .ok (.iload 9, 2) := by decide +kernel
theorem dX9_readBy_71 : decode cX9_readBy 71 = .ok (.ifCond .eq 21, 3) := by decide +kernel
theorem dX9_readBy_74 : decode cX9_readBy 74 = .ok (.iload 7, 2) := by decide +kernel
theorem dX9_readBy_76 : decode cX9_readBy 76 = .ok (.invokestatic 79, 3) := by decide +kernel
theorem dX9_readBy_79 : decode cX9_readBy 79 = .ok (.iload 5, 2) := by decide +kernel
theorem dX9_readBy_81 : decode cX9_readBy 81 = .ok (.if_icmp .le 11, 3) := by decide +kernel
theorem dX9_readBy_84 : decode cX9_readBy 84 = .ok (.iload 7, 2) := by decide +kernel
theorem dX9_readBy_86 : decode cX9_readBy 86 = .ok (.invokestatic 79, 3) := by decide +kernel
theorem dX9_readBy_89 : decode cX9_readBy 89 = .ok (.goto 5, 3) := by decide +kernel
theorem dX9_readBy_92 : decode cX9_readBy 92 = .ok (.iload 5, 2) := by decide +kernel
theorem dX9_readBy_94 : decode cX9_readBy 94 = .ok (.istore 5, 2) := by decide +kernel
theorem dX9_readBy_96 : decode cX9_readBy 96 = .ok (.iinc 6 1, 3) := by decide +kernel
theorem dX9_readBy_99 : decode cX9_readBy 99 = .ok (.goto (-93), 3) := by decide +kernel
theorem dX9_readBy_102 : decode cX9_readBy 102 = .ok (.iload 5, 2) := by decide +kernel
theorem dX9_readBy_104 : decode cX9_readBy 104 = .ok (.ireturn, 1) := by decide +kernel
theorem dX9_captureOf_0 : decode cX9_captureOf 0 = .ok (.bipush 24, 2) := by decide +kernel
theorem dX9_captureOf_2 : decode cX9_captureOf 2 = .ok (.iconst 5, 1) := by decide +kernel
theorem dX9_captureOf_3 : decode cX9_captureOf 3 = .ok (.iload_n 1, 1) := by decide +kernel
theorem dX9_captureOf_4 : decode cX9_captureOf 4 = .ok (.imul, 1) := by decide +kernel
theorem dX9_captureOf_5 : decode cX9_captureOf 5 = .ok (.iadd, 1) := by decide +kernel
theorem dX9_captureOf_6 : decode cX9_captureOf 6 = .ok (.istore 6, 2) := by decide +kernel
theorem dX9_captureOf_8 : decode cX9_captureOf 8 = .ok (.bipush 64, 2) := by decide +kernel
theorem dX9_captureOf_10 : decode cX9_captureOf 10 = .ok (.iconst 5, 1) := by decide +kernel
theorem dX9_captureOf_11 : decode cX9_captureOf 11 = .ok (.iload_n 2, 1) := by decide +kernel
theorem dX9_captureOf_12 : decode cX9_captureOf 12 = .ok (.imul, 1) := by decide +kernel
theorem dX9_captureOf_13 : decode cX9_captureOf 13 = .ok (.iadd, 1) := by decide +kernel
theorem dX9_captureOf_14 : decode cX9_captureOf 14 = .ok (.istore 7, 2) := by decide +kernel
theorem dX9_captureOf_16 : decode cX9_captureOf 16 = .ok (.iload_n 3, 1) := by decide +kernel
theorem dX9_captureOf_17 : decode cX9_captureOf 17 = .ok (.aload_n 0, 1) := by decide +kernel
theorem dX9_captureOf_18 : decode cX9_captureOf 18 = .ok (.getfield 7, 3) := by decide +kernel
theorem dX9_captureOf_21 : decode cX9_captureOf 21 = .ok (.iload 6, 2) := by decide +kernel
theorem dX9_captureOf_23 : decode cX9_captureOf 23 = .ok (.iconst 1, 1) := by decide +kernel
theorem dX9_captureOf_24 : decode cX9_captureOf 24 = .ok (.iadd, 1) := by decide +kernel
theorem dX9_captureOf_25 : decode cX9_captureOf 25 = .ok (.iaload, 1) := by decide +kernel
theorem dX9_captureOf_26 : decode cX9_captureOf 26 = .ok (.if_icmp .ge 7, 3) := by decide +kernel
theorem dX9_captureOf_29 : decode cX9_captureOf 29 = .ok (.iload_n 3, 1) := by decide +kernel
theorem dX9_captureOf_30 : decode cX9_captureOf 30 = .ok (.goto 12, 3) := by decide +kernel
theorem dX9_captureOf_33 : decode cX9_captureOf 33 = .ok (.aload_n 0, 1) := by decide +kernel
theorem dX9_captureOf_34 : decode cX9_captureOf 34 = .ok (.getfield 7, 3) := by decide +kernel
theorem dX9_captureOf_37 : decode cX9_captureOf 37 = .ok (.iload 6, 2) := by decide +kernel
theorem dX9_captureOf_39 : decode cX9_captureOf 39 = .ok (.iconst 1, 1) := by decide +kernel
theorem dX9_captureOf_40 : decode cX9_captureOf 40 = .ok (.iadd, 1) := by decide +kernel
theorem dX9_captureOf_41 : decode cX9_captureOf 41 = .ok (.iaload, 1) := by decide +kernel
theorem dX9_captureOf_42 : decode cX9_captureOf 42 = .ok (.istore 8, 2) := by decide +kernel
theorem dX9_captureOf_44 : decode cX9_captureOf 44 = .ok (.iload_n 3, 1) := by decide +kernel
theorem dX9_captureOf_45 : decode cX9_captureOf 45 = .ok (.aload_n 0, 1) := by decide +kernel
theorem dX9_captureOf_46 : decode cX9_captureOf 46 = .ok (.getfield 7, 3) := by decide +kernel
theorem dX9_captureOf_49 : decode cX9_captureOf 49 = .ok (.iload 6, 2) := by decide +kernel
theorem dX9_captureOf_51 : decode cX9_captureOf 51 = .ok (.iconst 1, 1) := by decide +kernel
theorem dX9_captureOf_52 : decode cX9_captureOf 52 = .ok (.iadd, 1) := by decide +kernel
theorem dX9_captureOf_53 : decode cX9_captureOf 53 = .ok (.iaload, 1) := by decide +kernel
theorem dX9_captureOf_54 : decode cX9_captureOf 54 = .ok (.iadd, 1) := by decide +kernel
theorem dX9_captureOf_55 : decode cX9_captureOf 55 = .ok (.iload 8, 2) := by decide +kernel
theorem dX9_captureOf_57 : decode cX9_captureOf 57 = .ok (.isub, 1) := by decide +kernel
theorem dX9_captureOf_58 : decode cX9_captureOf 58 = .ok (.istore 9, 2) := by decide +kernel
theorem dX9_captureOf_60 : decode cX9_captureOf 60 = .ok (.aload_n 0, 1) := by decide +kernel
theorem dX9_captureOf_61 : decode cX9_captureOf 61 = .ok (.aload_n 0, 1) := by decide +kernel
theorem dX9_captureOf_62 : decode cX9_captureOf 62 = .ok (.getfield 7, 3) := by decide +kernel
theorem dX9_captureOf_65 : decode cX9_captureOf 65 = .ok (.iload 7, 2) := by decide +kernel
theorem dX9_captureOf_67 : decode cX9_captureOf 67 = .ok (.iconst 2, 1) := by decide +kernel
theorem dX9_captureOf_68 : decode cX9_captureOf 68 = .ok (.iadd, 1) := by decide +kernel
theorem dX9_captureOf_69 : decode cX9_captureOf 69 = .ok (.iaload, 1) := by decide +kernel
theorem dX9_captureOf_70 : decode cX9_captureOf 70 = .ok (.aload_n 0, 1) := by decide +kernel
theorem dX9_captureOf_71 : decode cX9_captureOf 71 = .ok (.getfield 7, 3) := by decide +kernel
theorem dX9_captureOf_74 : decode cX9_captureOf 74 = .ok (.iload 6, 2) := by decide +kernel
theorem dX9_captureOf_76 : decode cX9_captureOf 76 = .ok (.iconst 2, 1) := by decide +kernel
theorem dX9_captureOf_77 : decode cX9_captureOf 77 = .ok (.iadd, 1) := by decide +kernel
theorem dX9_captureOf_78 : decode cX9_captureOf 78 = .ok (.iaload, 1) := by decide +kernel
theorem dX9_captureOf_79 : decode cX9_captureOf 79 = .ok (.iload 5, 2) := by decide +kernel
theorem dX9_captureOf_81 : decode cX9_captureOf 81 = .ok (.iload 4, 2) := by decide +kernel
theorem dX9_captureOf_83 : decode cX9_captureOf 83 = .ok (.invokevirtual 82, 3) := by decide +kernel
theorem dX9_captureOf_86 : decode cX9_captureOf 86 = .ok (.istore 10, 2) := by decide +kernel
theorem dX9_captureOf_88 : decode cX9_captureOf 88 = .ok (.aload_n 0, 1) := by decide +kernel
theorem dX9_captureOf_89 : decode cX9_captureOf 89 = .ok (.getfield 7, 3) := by decide +kernel
theorem dX9_captureOf_92 : decode cX9_captureOf 92 = .ok (.iload 7, 2) := by decide +kernel
theorem dX9_captureOf_94 : decode cX9_captureOf 94 = .ok (.iconst 3, 1) := by decide +kernel
theorem dX9_captureOf_95 : decode cX9_captureOf 95 = .ok (.iadd, 1) := by decide +kernel
theorem dX9_captureOf_96 : decode cX9_captureOf 96 = .ok (.iaload, 1) := by decide +kernel
theorem dX9_captureOf_97 : decode cX9_captureOf 97 = .ok (.iload 10, 2) := by decide +kernel
theorem dX9_captureOf_99 : decode cX9_captureOf 99 = .ok (.imul, 1) := by decide +kernel
theorem dX9_captureOf_100 : decode cX9_captureOf 100 = .ok (.iload 8, 2) := by decide +kernel
theorem dX9_captureOf_102 : decode cX9_captureOf 102 = .ok (.imul, 1) := by decide +kernel
theorem dX9_captureOf_103 : decode cX9_captureOf 103 = .ok (.aload_n 0, 1) := by decide +kernel
theorem dX9_captureOf_104 : decode cX9_captureOf 104 = .ok (.getfield 7, 3) := by decide +kernel
theorem dX9_captureOf_107 : decode cX9_captureOf 107 = .ok (.iload 6, 2) := by decide +kernel
theorem dX9_captureOf_109 : decode cX9_captureOf 109 = .ok (.iconst 2, 1) := by decide +kernel
theorem dX9_captureOf_110 : decode cX9_captureOf 110 = .ok (.iadd, 1) := by decide +kernel
theorem dX9_captureOf_111 : decode cX9_captureOf 111 = .ok (.iaload, 1) := by decide +kernel
theorem dX9_captureOf_112 : decode cX9_captureOf 112 = .ok (.iload 5, 2) := by decide +kernel
theorem dX9_captureOf_114 : decode cX9_captureOf 114 = .ok (.invokestatic 73, 3) := by decide +kernel
theorem dX9_captureOf_117 : decode cX9_captureOf 117 = .ok (.invokestatic 79, 3) := by decide +kernel
theorem dX9_captureOf_120 : decode cX9_captureOf 120 = .ok (.iload 9, 2) := by decide +kernel
theorem dX9_captureOf_122 : decode cX9_captureOf 122 = .ok (.imul, 1) := by decide +kernel
theorem dX9_captureOf_123 : decode cX9_captureOf 123 = .ok (.idiv, 1) := by decide +kernel
theorem dX9_captureOf_124 : decode cX9_captureOf 124 = .ok (.aload_n 0, 1) := by decide +kernel
theorem dX9_captureOf_125 : decode cX9_captureOf 125 = .ok (.iload_n 1, 1) := by decide +kernel
theorem dX9_captureOf_126 : decode cX9_captureOf 126 = .ok (.invokevirtual 86, 3) := by decide +kernel
theorem dX9_captureOf_129 : decode cX9_captureOf 129 = .ok (.isub, 1) := by decide +kernel
theorem dX9_captureOf_130 : decode cX9_captureOf 130 = .ok (.istore 11, 2) := by decide +kernel
theorem dX9_captureOf_132 : decode cX9_captureOf 132 = .ok (.iload 11, 2) := by decide +kernel
theorem dX9_captureOf_134 : decode cX9_captureOf 134 = .ok (.ifCond .le 8, 3) := by decide +kernel
theorem dX9_captureOf_137 : decode cX9_captureOf 137 = .ok (.iload 11, 2) := by decide +kernel
theorem dX9_captureOf_139 : decode cX9_captureOf 139 = .ok (.goto 4, 3) := by decide +kernel
theorem dX9_captureOf_142 : decode cX9_captureOf 142 = .ok (.iconst 0, 1) := by decide +kernel
theorem dX9_captureOf_143 : decode cX9_captureOf 143 = .ok (.ireturn, 1) := by decide +kernel
theorem dX9_timeOf_0 : decode cX9_timeOf 0 = .ok (.bipush 24, 2) := by decide +kernel
theorem dX9_timeOf_2 : decode cX9_timeOf 2 = .ok (.iconst 5, 1) := by decide +kernel
theorem dX9_timeOf_3 : decode cX9_timeOf 3 = .ok (.iload_n 1, 1) := by decide +kernel
theorem dX9_timeOf_4 : decode cX9_timeOf 4 = .ok (.imul, 1) := by decide +kernel
theorem dX9_timeOf_5 : decode cX9_timeOf 5 = .ok (.iadd, 1) := by decide +kernel
theorem dX9_timeOf_6 : decode cX9_timeOf 6 = .ok (.istore_n 3, 1) := by decide +kernel
theorem dX9_timeOf_7 : decode cX9_timeOf 7 = .ok (.aload_n 0, 1) := by decide +kernel
theorem dX9_timeOf_8 : decode cX9_timeOf 8 = .ok (.getfield 7, 3) := by decide +kernel
theorem dX9_timeOf_11 : decode cX9_timeOf 11 = .ok (.iload_n 3, 1) := by decide +kernel
theorem dX9_timeOf_12 : decode cX9_timeOf 12 = .ok (.iconst 3, 1) := by decide +kernel
theorem dX9_timeOf_13 : decode cX9_timeOf 13 = .ok (.iadd, 1) := by decide +kernel
theorem dX9_timeOf_14 : decode cX9_timeOf 14 = .ok (.iaload, 1) := by decide +kernel
theorem dX9_timeOf_15 : decode cX9_timeOf 15 = .ok (.aload_n 0, 1) := by decide +kernel
theorem dX9_timeOf_16 : decode cX9_timeOf 16 = .ok (.getfield 7, 3) := by decide +kernel
theorem dX9_timeOf_19 : decode cX9_timeOf 19 = .ok (.iload_n 3, 1) := by decide +kernel
theorem dX9_timeOf_20 : decode cX9_timeOf 20 = .ok (.iconst 1, 1) := by decide +kernel
theorem dX9_timeOf_21 : decode cX9_timeOf 21 = .ok (.iadd, 1) := by decide +kernel
theorem dX9_timeOf_22 : decode cX9_timeOf 22 = .ok (.iaload, 1) := by decide +kernel
theorem dX9_timeOf_23 : decode cX9_timeOf 23 = .ok (.imul, 1) := by decide +kernel
theorem dX9_timeOf_24 : decode cX9_timeOf 24 = .ok (.iload_n 2, 1) := by decide +kernel
theorem dX9_timeOf_25 : decode cX9_timeOf 25 = .ok (.iadd, 1) := by decide +kernel
theorem dX9_timeOf_26 : decode cX9_timeOf 26 = .ok (.iconst 1, 1) := by decide +kernel
theorem dX9_timeOf_27 : decode cX9_timeOf 27 = .ok (.isub, 1) := by decide +kernel
theorem dX9_timeOf_28 : decode cX9_timeOf 28 = .ok (.iload_n 2, 1) := by decide +kernel
theorem dX9_timeOf_29 : decode cX9_timeOf 29 = .ok (.idiv, 1) := by decide +kernel
theorem dX9_timeOf_30 : decode cX9_timeOf 30 = .ok (.ireturn, 1) := by decide +kernel
theorem dX9_playsFor_0 : decode cX9_playsFor 0 = .ok (.iload_n 2, 1) := by decide +kernel
theorem dX9_playsFor_1 : decode cX9_playsFor 1 = .ok (.aload_n 0, 1) := by decide +kernel
theorem dX9_playsFor_2 : decode cX9_playsFor 2 = .ok (.getfield 7, 3) := by decide +kernel
theorem dX9_playsFor_5 : decode cX9_playsFor 5 = .ok (.bipush 24, 2) := by decide +kernel
theorem dX9_playsFor_7 : decode cX9_playsFor 7 = .ok (.iconst 5, 1) := by decide +kernel
theorem dX9_playsFor_8 : decode cX9_playsFor 8 = .ok (.iload_n 1, 1) := by decide +kernel
theorem dX9_playsFor_9 : decode cX9_playsFor 9 = .ok (.imul, 1) := by decide +kernel
theorem dX9_playsFor_10 : decode cX9_playsFor 10 = .ok (.iadd, 1) := by decide +kernel
theorem dX9_playsFor_11 : decode cX9_playsFor 11 = .ok (.iconst 1, 1) := by decide +kernel
theorem dX9_playsFor_12 : decode cX9_playsFor 12 = .ok (.iadd, 1) := by decide +kernel
theorem dX9_playsFor_13 : decode cX9_playsFor 13 = .ok (.iaload, 1) := by decide +kernel
theorem dX9_playsFor_14 : decode cX9_playsFor 14 = .ok (.if_icmp .le 7, 3) := by decide +kernel
theorem dX9_playsFor_17 : decode cX9_playsFor 17 = .ok (.iconst 2, 1) := by decide +kernel
theorem dX9_playsFor_18 : decode cX9_playsFor 18 = .ok (.goto 4, 3) := by decide +kernel
theorem dX9_playsFor_21 : decode cX9_playsFor 21 = .ok (.iconst 1, 1) := by decide +kernel
theorem dX9_playsFor_22 : decode cX9_playsFor 22 = .ok (.ireturn, 1) := by decide +kernel
theorem dX9_hears_0 : decode cX9_hears 0 = .ok (.iconst 0, 1) := by decide +kernel
theorem dX9_hears_1 : decode cX9_hears 1 = .ok (.istore 5, 2) := by decide +kernel
theorem dX9_hears_3 : decode cX9_hears 3 = .ok (.iconst 0, 1) := by decide +kernel
theorem dX9_hears_4 : decode cX9_hears 4 = .ok (.istore 6, 2) := by decide +kernel
theorem dX9_hears_6 : decode cX9_hears 6 = .ok (.iload 6, 2) := by decide +kernel
theorem dX9_hears_8 : decode cX9_hears 8 = .ok (.iconst 4, 1) := by decide +kernel
theorem dX9_hears_9 : decode cX9_hears 9 = .ok (.if_icmp .ge 74, 3) := by decide +kernel
theorem dX9_hears_12 : decode cX9_hears 12 = .ok (.aload_n 0, 1) := by decide +kernel
theorem dX9_hears_13 : decode cX9_hears 13 = .ok (.getfield 32, 3) := by decide +kernel
theorem dX9_hears_16 : decode cX9_hears 16 = .ok (.iload 6, 2) := by decide +kernel
theorem dX9_hears_18 : decode cX9_hears 18 = .ok (.iload 6, 2) := by decide +kernel
theorem dX9_hears_20 : decode cX9_hears 20 = .ok (.aload_n 0, 1) := by decide +kernel
theorem dX9_hears_21 : decode cX9_hears 21 = .ok (.getfield 7, 3) := by decide +kernel
theorem dX9_hears_24 : decode cX9_hears 24 = .ok (.bipush 24, 2) := by decide +kernel
theorem dX9_hears_26 : decode cX9_hears 26 = .ok (.iconst 5, 1) := by decide +kernel
theorem dX9_hears_27 : decode cX9_hears 27 = .ok (.iload_n 1, 1) := by decide +kernel
theorem dX9_hears_28 : decode cX9_hears 28 = .ok (.imul, 1) := by decide +kernel
theorem dX9_hears_29 : decode cX9_hears 29 = .ok (.iadd, 1) := by decide +kernel
theorem dX9_hears_30 : decode cX9_hears 30 = .ok (.iconst 2, 1) := by decide +kernel
theorem dX9_hears_31 : decode cX9_hears 31 = .ok (.iadd, 1) := by decide +kernel
theorem dX9_hears_32 : decode cX9_hears 32 = .ok (.iaload, 1) := by decide +kernel
theorem dX9_hears_33 : decode cX9_hears 33 = .ok (.invokestatic 57, 3) := by decide +kernel
theorem dX9_hears_36 : decode cX9_hears 36 = .ok (.if_icmp .ge 17, 3) := by decide +kernel
theorem dX9_hears_39 : decode cX9_hears 39 = .ok (.aload_n 0, 1) := by decide +kernel
theorem dX9_hears_40 : decode cX9_hears 40 = .ok (.iload_n 1, 1) := by decide +kernel
theorem dX9_hears_41 : decode cX9_hears 41 = .ok (.iload_n 2, 1) := by decide +kernel
theorem dX9_hears_42 : decode cX9_hears 42 = .ok (.iload_n 3, 1) := by decide +kernel
theorem dX9_hears_43 : decode cX9_hears 43 = .ok (.iload 4, 2) := by decide +kernel
theorem dX9_hears_45 : decode cX9_hears 45 = .ok (.iload 6, 2) := by decide +kernel
theorem dX9_hears_47 : decode cX9_hears 47 = .ok (.invokevirtual 89, 3) := by decide +kernel
theorem dX9_hears_50 : decode cX9_hears 50 = .ok (.goto 4, 3) := by decide +kernel
theorem dX9_hears_53 : decode cX9_hears 53 = .ok (.iconst 0, 1) := by decide +kernel
theorem dX9_hears_54 : decode cX9_hears 54 = .ok (.iastore, 1) := by decide +kernel
theorem dX9_hears_55 : decode cX9_hears 55 = .ok (.iload 5, 2) := by decide +kernel
theorem dX9_hears_57 : decode cX9_hears 57 = .ok (.ifCond .ne 13, 3) := by decide +kernel
theorem dX9_hears_60 : decode cX9_hears 60 = .ok (.aload_n 0, 1) := by decide +kernel
theorem dX9_hears_61 : decode cX9_hears 61 = .ok (.getfield 32, 3) := by decide +kernel
theorem dX9_hears_64 : decode cX9_hears 64 = .ok (.iload 6, 2) := by decide +kernel
theorem dX9_hears_66 : decode cX9_hears 66 = .ok (.iaload, 1) := by decide +kernel
theorem dX9_hears_67 : decode cX9_hears 67 = .ok (.ifCond .le 7, 3) := by decide +kernel
theorem dX9_hears_70 : decode cX9_hears 70 = .ok (.iconst 1, 1) := by decide +kernel
theorem dX9_hears_71 : decode cX9_hears 71 = .ok (.goto 4, 3) := by decide +kernel
theorem dX9_hears_74 : decode cX9_hears 74 = .ok (.iconst 0, 1) := by decide +kernel
theorem dX9_hears_75 : decode cX9_hears 75 = .ok (.istore 5, 2) := by decide +kernel
theorem dX9_hears_77 : decode cX9_hears 77 = .ok (.iinc 6 1, 3) := by decide +kernel
theorem dX9_hears_80 : decode cX9_hears 80 = .ok (.goto (-74), 3) := by decide +kernel
theorem dX9_hears_83 : decode cX9_hears 83 = .ok (.iload 5, 2) := by decide +kernel
theorem dX9_hears_85 : decode cX9_hears 85 = .ok (.ireturn, 1) := by decide +kernel
theorem dX9_reasonAgainst_0 : decode cX9_reasonAgainst 0 = .ok (.bipush 24, 2) := by decide +kernel
theorem dX9_reasonAgainst_2 : decode cX9_reasonAgainst 2 = .ok (.iconst 5, 1) := by decide +kernel
theorem dX9_reasonAgainst_3 : decode cX9_reasonAgainst 3 = .ok (.iload_n 1, 1) := by decide +kernel
theorem dX9_reasonAgainst_4 : decode cX9_reasonAgainst 4 = .ok (.imul, 1) := by decide +kernel
theorem dX9_reasonAgainst_5 : decode cX9_reasonAgainst 5 = .ok (.iadd, 1) := by decide +kernel
theorem dX9_reasonAgainst_6 : decode cX9_reasonAgainst 6 = .ok (.istore 5, 2) := by decide +kernel
theorem dX9_reasonAgainst_8 : decode cX9_reasonAgainst 8 = .ok (.bipush 64, 2) := by decide +kernel
theorem dX9_reasonAgainst_10 : decode cX9_reasonAgainst 10 = .ok (.iconst 5, 1) := by decide +kernel
theorem dX9_reasonAgainst_11 : decode cX9_reasonAgainst 11 = .ok (.iload_n 2, 1) := by decide +kernel
theorem dX9_reasonAgainst_12 : decode cX9_reasonAgainst 12 = .ok (.imul, 1) := by decide +kernel
theorem dX9_reasonAgainst_13 : decode cX9_reasonAgainst 13 = .ok (.iadd, 1) := by decide +kernel
theorem dX9_reasonAgainst_14 : decode cX9_reasonAgainst 14 = .ok (.istore 6, 2) := by decide +kernel
theorem dX9_reasonAgainst_16 : decode cX9_reasonAgainst 16 = .ok (.aload_n 0, 1) := by decide +kernel
theorem dX9_reasonAgainst_17 : decode cX9_reasonAgainst 17 = .ok (.getfield 7, 3) := by decide +kernel
theorem dX9_reasonAgainst_20 : decode cX9_reasonAgainst 20 = .ok (.iload 5, 2) := by decide +kernel
theorem dX9_reasonAgainst_22 : decode cX9_reasonAgainst 22 = .ok (.iaload, 1) := by decide +kernel
theorem dX9_reasonAgainst_23 : decode cX9_reasonAgainst 23 = .ok (.aload_n 0, 1) := by decide +kernel
theorem dX9_reasonAgainst_24 : decode cX9_reasonAgainst 24 = .ok (.getfield 7, 3) := by decide +kernel
theorem dX9_reasonAgainst_27 : decode cX9_reasonAgainst 27 = .ok (.iload 6, 2) := by decide +kernel
theorem dX9_reasonAgainst_29 : decode cX9_reasonAgainst 29 = .ok (.iaload, 1) := by decide +kernel
theorem dX9_reasonAgainst_30 : decode cX9_reasonAgainst 30 = .ok (.if_icmp .eq 5, 3) := by decide +kernel
theorem dX9_reasonAgainst_33 : decode cX9_reasonAgainst 33 = .ok (.iconst 1, 1) := by decide +kernel
theorem dX9_reasonAgainst_34 : decode cX9_reasonAgainst 34 = .ok (.ireturn, 1) := by decide +kernel
theorem dX9_reasonAgainst_35 : decode cX9_reasonAgainst 35 = .ok (.aload_n 0, 1) := by decide +kernel
theorem dX9_reasonAgainst_36 : decode cX9_reasonAgainst 36 = .ok (.getfield 7, 3) := by decide +kernel
theorem dX9_reasonAgainst_39 : decode cX9_reasonAgainst 39 = .ok (.iload 5, 2) := by decide +kernel
theorem dX9_reasonAgainst_41 : decode cX9_reasonAgainst 41 = .ok (.iconst 4, 1) := by decide +kernel
theorem dX9_reasonAgainst_42 : decode cX9_reasonAgainst 42 = .ok (.iadd, 1) := by decide +kernel
theorem dX9_reasonAgainst_43 : decode cX9_reasonAgainst 43 = .ok (.iaload, 1) := by decide +kernel
theorem dX9_reasonAgainst_44 : decode cX9_reasonAgainst 44 = .ok (.aload_n 0, 1) := by decide +kernel
theorem dX9_reasonAgainst_45 : decode cX9_reasonAgainst 45 = .ok (.iload_n 1, 1) := by decide +kernel
theorem dX9_reasonAgainst_46 : decode cX9_reasonAgainst 46 = .ok (.iload_n 3, 1) := by decide +kernel
theorem dX9_reasonAgainst_47 : decode cX9_reasonAgainst 47 = .ok (.invokevirtual 93, 3) := by decide +kernel
theorem dX9_reasonAgainst_50 : decode cX9_reasonAgainst 50 = .ok (.if_icmp .ge 5, 3) := by decide +kernel
theorem dX9_reasonAgainst_53 : decode cX9_reasonAgainst 53 = .ok (.iconst 2, 1) := by decide +kernel
theorem dX9_reasonAgainst_54 : decode cX9_reasonAgainst 54 = .ok (.ireturn, 1) := by decide +kernel
theorem dX9_reasonAgainst_55 : decode cX9_reasonAgainst 55 = .ok (.aload_n 0, 1) := by decide +kernel
theorem dX9_reasonAgainst_56 : decode cX9_reasonAgainst 56 = .ok (.getfield 7, 3) := by decide +kernel
theorem dX9_reasonAgainst_59 : decode cX9_reasonAgainst 59 = .ok (.iload 6, 2) := by decide +kernel
theorem dX9_reasonAgainst_61 : decode cX9_reasonAgainst 61 = .ok (.iconst 4, 1) := by decide +kernel
theorem dX9_reasonAgainst_62 : decode cX9_reasonAgainst 62 = .ok (.iadd, 1) := by decide +kernel
theorem dX9_reasonAgainst_63 : decode cX9_reasonAgainst 63 = .ok (.iaload, 1) := by decide +kernel
theorem dX9_reasonAgainst_64 : decode cX9_reasonAgainst 64 = .ok (.aload_n 0, 1) := by decide +kernel
theorem dX9_reasonAgainst_65 : decode cX9_reasonAgainst 65 = .ok (.iload_n 1, 1) := by decide +kernel
theorem dX9_reasonAgainst_66 : decode cX9_reasonAgainst 66 = .ok (.iload_n 3, 1) := by decide +kernel
theorem dX9_reasonAgainst_67 : decode cX9_reasonAgainst 67 = .ok (.invokevirtual 96, 3) := by decide +kernel
theorem dX9_reasonAgainst_70 : decode cX9_reasonAgainst 70 = .ok (.if_icmp .ge 5, 3) := by decide +kernel
theorem dX9_reasonAgainst_73 : decode cX9_reasonAgainst 73 = .ok (.iconst 3, 1) := by decide +kernel
theorem dX9_reasonAgainst_74 : decode cX9_reasonAgainst 74 = .ok (.ireturn, 1) := by decide +kernel
theorem dX9_reasonAgainst_75 : decode cX9_reasonAgainst 75 = .ok (.aload_n 0, 1) := by decide +kernel
theorem dX9_reasonAgainst_76 : decode cX9_reasonAgainst 76 = .ok (.iload_n 1, 1) := by decide +kernel
theorem dX9_reasonAgainst_77 : decode cX9_reasonAgainst 77 = .ok (.iload_n 2, 1) := by decide +kernel
theorem dX9_reasonAgainst_78 : decode cX9_reasonAgainst 78 = .ok (.iload_n 3, 1) := by decide +kernel
theorem dX9_reasonAgainst_79 : decode cX9_reasonAgainst 79 = .ok (.iload 4, 2) := by decide +kernel
theorem dX9_reasonAgainst_81 : decode cX9_reasonAgainst 81 = .ok (.invokevirtual 99, 3) := by decide +kernel
theorem dX9_reasonAgainst_84 : decode cX9_reasonAgainst 84 = .ok (.ifCond .ne 7, 3) := by decide +kernel
theorem dX9_reasonAgainst_87 : decode cX9_reasonAgainst 87 = .ok (.iconst 4, 1) := by decide +kernel
theorem dX9_reasonAgainst_88 : decode cX9_reasonAgainst 88 = .ok (.goto 19, 3) := by decide +kernel
theorem dX9_reasonAgainst_91 : decode cX9_reasonAgainst 91 = .ok (.aload_n 0, 1) := by decide +kernel
theorem dX9_reasonAgainst_92 : decode cX9_reasonAgainst 92 = .ok (.getfield 7, 3) := by decide +kernel
theorem dX9_reasonAgainst_95 : decode cX9_reasonAgainst 95 = .ok (.iconst 4, 1) := by decide +kernel
theorem dX9_reasonAgainst_96 : decode cX9_reasonAgainst 96 = .ok (.iaload, 1) := by decide +kernel
theorem dX9_reasonAgainst_97 : decode cX9_reasonAgainst 97 = .ok (.bipush 24, 2) := by decide +kernel
theorem dX9_reasonAgainst_99 : decode cX9_reasonAgainst 99 = .ok (.if_icmp .ne 7, 3) := by decide +kernel
theorem dX9_reasonAgainst_102 : decode cX9_reasonAgainst 102 = .ok (.iconst 5, 1) := by decide +kernel
theorem dX9_reasonAgainst_103 : decode cX9_reasonAgainst 103 = .ok (.goto 4, 3) := by decide +kernel
theorem dX9_reasonAgainst_106 : decode cX9_reasonAgainst 106 = .ok (.iconst 0, 1) := by decide +kernel
theorem dX9_reasonAgainst_107 : decode cX9_reasonAgainst 107 = .ok (.ireturn, 1) := by decide +kernel
theorem dX9_errorOf_0 : decode cX9_errorOf 0 = .ok (.aload_n 0, 1) := by decide +kernel
theorem dX9_errorOf_1 : decode cX9_errorOf 1 = .ok (.iconst 1, 1) := by decide +kernel
theorem dX9_errorOf_2 : decode cX9_errorOf 2 = .ok (.iload_n 1, 1) := by decide +kernel
theorem dX9_errorOf_3 : decode cX9_errorOf 3 = .ok (.invokevirtual 64, 3) := by decide +kernel
theorem dX9_errorOf_6 : decode cX9_errorOf 6 = .ok (.ifCond .eq 12, 3) := by decide +kernel
theorem dX9_errorOf_9 : decode cX9_errorOf 9 = .ok (.aload_n 0, 1) := by decide +kernel
theorem dX9_errorOf_10 : decode cX9_errorOf 10 = .ok (.iconst 2, 1) := by decide +kernel
theorem dX9_errorOf_11 : decode cX9_errorOf 11 = .ok (.iload_n 2, 1) := by decide +kernel
theorem dX9_errorOf_12 : decode cX9_errorOf 12 = .ok (.invokevirtual 64, 3) := by decide +kernel
theorem dX9_errorOf_15 : decode cX9_errorOf 15 = .ok (.ifCond .ne 5, 3) := by decide +kernel
theorem dX9_errorOf_18 : decode cX9_errorOf 18 = .ok (.iconst (-1), 1) := by decide +kernel
theorem dX9_errorOf_19 : decode cX9_errorOf 19 = .ok (.ireturn, 1) := by decide +kernel
theorem dX9_errorOf_20 : decode cX9_errorOf 20 = .ok (.aload_n 0, 1) := by decide +kernel
theorem dX9_errorOf_21 : decode cX9_errorOf 21 = .ok (.iload_n 2, 1) := by decide +kernel
theorem dX9_errorOf_22 : decode cX9_errorOf 22 = .ok (.iload_n 3, 1) := by decide +kernel
theorem dX9_errorOf_23 : decode cX9_errorOf 23 = .ok (.invokevirtual 103, 3) := by decide +kernel
theorem dX9_errorOf_26 : decode cX9_errorOf 26 = .ok (.ifCond .eq 17, 3) := by decide +kernel
theorem dX9_errorOf_29 : decode cX9_errorOf 29 = .ok (.iload 4, 2) := by decide +kernel
theorem dX9_errorOf_31 : decode cX9_errorOf 31 = .ok (.iconst 0, 1) := by decide +kernel
theorem dX9_errorOf_32 : decode cX9_errorOf 32 = .ok (.iconst 1, 1) := by decide +kernel
theorem dX9_errorOf_33 : decode cX9_errorOf 33 = .ok (.invokestatic 42, 3) := by decide +kernel
theorem dX9_errorOf_36 : decode cX9_errorOf 36 = .ok (.ifCond .eq 7, 3) := by decide +kernel
theorem dX9_errorOf_39 : decode cX9_errorOf 39 = .ok (.iconst 0, 1) := by decide +kernel
theorem dX9_errorOf_40 : decode cX9_errorOf 40 = .ok (.goto 5, 3) := by decide +kernel
theorem dX9_errorOf_43 : decode cX9_errorOf 43 = .ok (.bipush (-2), 2) := by decide +kernel
theorem dX9_errorOf_45 : decode cX9_errorOf 45 = .ok (.ireturn, 1) := by decide +kernel
theorem dX9_plays_0 : decode cX9_plays 0 = .ok (.aload_n 0, 1) := by decide +kernel
theorem dX9_plays_1 : decode cX9_plays 1 = .ok (.iload_n 1, 1) := by decide +kernel
theorem dX9_plays_2 : decode cX9_plays 2 = .ok (.iload_n 2, 1) := by decide +kernel
theorem dX9_plays_3 : decode cX9_plays 3 = .ok (.iload_n 3, 1) := by decide +kernel
theorem dX9_plays_4 : decode cX9_plays 4 = .ok (.iload 4, 2) := by decide +kernel
theorem dX9_plays_6 : decode cX9_plays 6 = .ok (.invokevirtual 106, 3) := by decide +kernel
theorem dX9_plays_9 : decode cX9_plays 9 = .ok (.istore 6, 2) := by decide +kernel
theorem dX9_plays_11 : decode cX9_plays 11 = .ok (.iload 6, 2) := by decide +kernel
theorem dX9_plays_13 : decode cX9_plays 13 = .ok (.ifCond .ge 6, 3) := by decide +kernel
theorem dX9_plays_16 : decode cX9_plays 16 = .ok (.iload 6, 2) := by decide +kernel
theorem dX9_plays_18 : decode cX9_plays 18 = .ok (.ireturn, 1) := by decide +kernel
theorem dX9_plays_19 : decode cX9_plays 19 = .ok (.aload_n 0, 1) := by decide +kernel
theorem dX9_plays_20 : decode cX9_plays 20 = .ok (.iload_n 1, 1) := by decide +kernel
theorem dX9_plays_21 : decode cX9_plays 21 = .ok (.iload_n 2, 1) := by decide +kernel
theorem dX9_plays_22 : decode cX9_plays 22 = .ok (.iload_n 3, 1) := by decide +kernel
theorem dX9_plays_23 : decode cX9_plays 23 = .ok (.iload 4, 2) := by decide +kernel
theorem dX9_plays_25 : decode cX9_plays 25 = .ok (.invokevirtual 109, 3) := by decide +kernel
theorem dX9_plays_28 : decode cX9_plays 28 = .ok (.istore 7, 2) := by decide +kernel
theorem dX9_plays_30 : decode cX9_plays 30 = .ok (.iload 7, 2) := by decide +kernel
theorem dX9_plays_32 : decode cX9_plays 32 = .ok (.ifCond .le 15, 3) := by decide +kernel
theorem dX9_plays_35 : decode cX9_plays 35 = .ok (.aload_n 0, 1) := by decide +kernel
theorem dX9_plays_36 : decode cX9_plays 36 = .ok (.getfield 7, 3) := by decide +kernel
theorem dX9_plays_39 : decode cX9_plays 39 = .ok (.bipush 7, 2) := by decide +kernel
theorem dX9_plays_41 : decode cX9_plays 41 = .ok (.iload 7, 2) := by decide +kernel
theorem dX9_plays_43 : decode cX9_plays 43 = .ok (.iastore, 1) := by decide +kernel
theorem dX9_plays_44 : decode cX9_plays 44 = .ok (.bipush (-5), 2) := by decide +kernel
theorem dX9_plays_46 : decode cX9_plays 46 = .ok (.ireturn, 1) := by decide +kernel
theorem dX9_plays_47 : decode cX9_plays 47 = .ok (.iload 5, 2) := by decide +kernel
theorem dX9_plays_49 : decode cX9_plays 49 = .ok (.ifCond .eq 7, 3) := by decide +kernel
theorem dX9_plays_52 : decode cX9_plays 52 = .ok (.aload_n 0, 1) := by decide +kernel
theorem dX9_plays_53 : decode cX9_plays 53 = .ok (.invokevirtual 54, 3) := by decide +kernel
theorem dX9_plays_56 : decode cX9_plays 56 = .ok (.sipush 420, 3) := by decide +kernel
theorem dX9_plays_59 : decode cX9_plays 59 = .ok (.bipush 9, 2) := by decide +kernel
theorem dX9_plays_61 : decode cX9_plays 61 = .ok (.aload_n 0, 1) := by decide +kernel
theorem dX9_plays_62 : decode cX9_plays 62 = .ok (.getfield 7, 3) := by decide +kernel
theorem dX9_plays_65 : decode cX9_plays 65 = .ok (.iconst 4, 1) := by decide +kernel
theorem dX9_plays_66 : decode cX9_plays 66 = .ok (.iaload, 1) := by decide +kernel
theorem dX9_plays_67 : decode cX9_plays 67 = .ok (.imul, 1) := by decide +kernel
theorem dX9_plays_68 : decode cX9_plays 68 = .ok (.iadd, 1) := by decide +kernel
theorem dX9_plays_69 : decode cX9_plays 69 = .ok (.istore 8, 2) := by decide +kernel
theorem dX9_plays_71 : decode cX9_plays 71 = .ok (.aload_n 0, 1) := by decide +kernel
theorem dX9_plays_72 : decode cX9_plays 72 = .ok (.getfield 7, 3) := by decide +kernel
theorem dX9_plays_75 : decode cX9_plays 75 = .ok (.iload 8, 2) := by decide +kernel
theorem dX9_plays_77 : decode cX9_plays 77 = .ok (.iload_n 1, 1) := by decide +kernel
theorem dX9_plays_78 : decode cX9_plays 78 = .ok (.iastore, 1) := by decide +kernel
theorem dX9_plays_79 : decode cX9_plays 79 = .ok (.aload_n 0, 1) := by decide +kernel
theorem dX9_plays_80 : decode cX9_plays 80 = .ok (.getfield 7, 3) := by decide +kernel
theorem dX9_plays_83 : decode cX9_plays 83 = .ok (.iload 8, 2) := by decide +kernel
theorem dX9_plays_85 : decode cX9_plays 85 = .ok (.iconst 1, 1) := by decide +kernel
theorem dX9_plays_86 : decode cX9_plays 86 = .ok (.iadd, 1) := by decide +kernel
theorem dX9_plays_87 : decode cX9_plays 87 = .ok (.iload_n 2, 1) := by decide +kernel
theorem dX9_plays_88 : decode cX9_plays 88 = .ok (.iastore, 1) := by decide +kernel
theorem dX9_plays_89 : decode cX9_plays 89 = .ok (.aload_n 0, 1) := by decide +kernel
theorem dX9_plays_90 : decode cX9_plays 90 = .ok (.getfield 7, 3) := by decide +kernel
theorem dX9_plays_93 : decode cX9_plays 93 = .ok (.iload 8, 2) := by decide +kernel
theorem dX9_plays_95 : decode cX9_plays 95 = .ok (.iconst 2, 1) := by decide +kernel
theorem dX9_plays_96 : decode cX9_plays 96 = .ok (.iadd, 1) := by decide +kernel
theorem dX9_plays_97 : decode cX9_plays 97 = .ok (.iload_n 3, 1) := by decide +kernel
theorem dX9_plays_98 : decode cX9_plays 98 = .ok (.iastore, 1) := by decide +kernel
theorem dX9_plays_99 : decode cX9_plays 99 = .ok (.aload_n 0, 1) := by decide +kernel
theorem dX9_plays_100 : decode cX9_plays 100 = .ok (.getfield 7, 3) := by decide +kernel
theorem dX9_plays_103 : decode cX9_plays 103 = .ok (.iload 8, 2) := by decide +kernel
theorem dX9_plays_105 : decode cX9_plays 105 = .ok (.iconst 3, 1) := by decide +kernel
theorem dX9_plays_106 : decode cX9_plays 106 = .ok (.iadd, 1) := by decide +kernel
theorem dX9_plays_107 : decode cX9_plays 107 = .ok (.iload 4, 2) := by decide +kernel
theorem dX9_plays_109 : decode cX9_plays 109 = .ok (.iastore, 1) := by decide +kernel
theorem dX9_plays_110 : decode cX9_plays 110 = .ok (.aload_n 0, 1) := by decide +kernel
theorem dX9_plays_111 : decode cX9_plays 111 = .ok (.getfield 7, 3) := by decide +kernel
theorem dX9_plays_114 : decode cX9_plays 114 = .ok (.iload 8, 2) := by decide +kernel
theorem dX9_plays_116 : decode cX9_plays 116 = .ok (.iconst 4, 1) := by decide +kernel
theorem dX9_plays_117 : decode cX9_plays 117 = .ok (.iadd, 1) := by decide +kernel
theorem dX9_plays_118 : decode cX9_plays 118 = .ok (.aload_n 0, 1) := by decide +kernel
theorem dX9_plays_119 : decode cX9_plays 119 = .ok (.getfield 7, 3) := by decide +kernel
theorem dX9_plays_122 : decode cX9_plays 122 = .ok (.iconst 0, 1) := by decide +kernel
theorem dX9_plays_123 : decode cX9_plays 123 = .ok (.iaload, 1) := by decide +kernel
theorem dX9_plays_124 : decode cX9_plays 124 = .ok (.iastore, 1) := by decide +kernel
theorem dX9_plays_125 : decode cX9_plays 125 = .ok (.iconst 0, 1) := by decide +kernel
theorem dX9_plays_126 : decode cX9_plays 126 = .ok (.istore 9, 2) := by decide +kernel
theorem dX9_plays_128 : decode cX9_plays 128 = .ok (.iload 9, 2) := by decide +kernel
theorem dX9_plays_130 : decode cX9_plays 130 = .ok (.iconst 4, 1) := by decide +kernel
theorem dX9_plays_131 : decode cX9_plays 131 = .ok (.if_icmp .ge 28, 3) := by decide +kernel
theorem dX9_plays_134 : decode cX9_plays 134 = .ok (.aload_n 0, 1) := by decide +kernel
theorem dX9_plays_135 : decode cX9_plays 135 = .ok (.getfield 7, 3) := by decide +kernel
theorem dX9_plays_138 : decode cX9_plays 138 = .ok (.iload 8, 2) := by decide +kernel
theorem dX9_plays_140 : decode cX9_plays 140 = .ok (.iconst 5, 1) := by decide +kernel
theorem dX9_plays_141 : decode cX9_plays 141 = .ok (.iadd, 1) := by decide +kernel
theorem dX9_plays_142 : decode cX9_plays 142 = .ok (.iload 9, 2) := by decide +kernel
theorem dX9_plays_144 : decode cX9_plays 144 = .ok (.iadd, 1) := by decide +kernel
theorem dX9_plays_145 : decode cX9_plays 145 = .ok (.aload_n 0, 1) := by decide +kernel
theorem dX9_plays_146 : decode cX9_plays 146 = .ok (.getfield 32, 3) := by decide +kernel
theorem dX9_plays_149 : decode cX9_plays 149 = .ok (.iload 9, 2) := by decide +kernel
theorem dX9_plays_151 : decode cX9_plays 151 = .ok (.iaload, 1) := by decide +kernel
theorem dX9_plays_152 : decode cX9_plays 152 = .ok (.iastore, 1) := by decide +kernel
theorem dX9_plays_153 : decode cX9_plays 153 = .ok (.iinc 9 1, 3) := by decide +kernel
theorem dX9_plays_156 : decode cX9_plays 156 = .ok (.goto (-28), 3) := by decide +kernel
theorem dX9_plays_159 : decode cX9_plays 159 = .ok (.aload_n 0, 1) := by decide +kernel
theorem dX9_plays_160 : decode cX9_plays 160 = .ok (.getfield 7, 3) := by decide +kernel
theorem dX9_plays_163 : decode cX9_plays 163 = .ok (.bipush 24, 2) := by decide +kernel
theorem dX9_plays_165 : decode cX9_plays 165 = .ok (.iconst 5, 1) := by decide +kernel
theorem dX9_plays_166 : decode cX9_plays 166 = .ok (.iload_n 1, 1) := by decide +kernel
theorem dX9_plays_167 : decode cX9_plays 167 = .ok (.imul, 1) := by decide +kernel
theorem dX9_plays_168 : decode cX9_plays 168 = .ok (.iadd, 1) := by decide +kernel
theorem dX9_plays_169 : decode cX9_plays 169 = .ok (.iconst 4, 1) := by decide +kernel
theorem dX9_plays_170 : decode cX9_plays 170 = .ok (.iadd, 1) := by decide +kernel
theorem dX9_plays_171 : decode cX9_plays 171 = .ok (.dup2, 1) := by decide +kernel
theorem dX9_plays_172 : decode cX9_plays 172 = .ok (.iaload, 1) := by decide +kernel
theorem dX9_plays_173 : decode cX9_plays 173 = .ok (.aload_n 0, 1) := by decide +kernel
theorem dX9_plays_174 : decode cX9_plays 174 = .ok (.iload_n 1, 1) := by decide +kernel
theorem dX9_plays_175 : decode cX9_plays 175 = .ok (.iload_n 3, 1) := by decide +kernel
theorem dX9_plays_176 : decode cX9_plays 176 = .ok (.invokevirtual 93, 3) := by decide +kernel
theorem dX9_plays_179 : decode cX9_plays 179 = .ok (.isub, 1) := by decide +kernel
theorem dX9_plays_180 : decode cX9_plays 180 = .ok (.iastore, 1) := by decide +kernel
theorem dX9_plays_181 : decode cX9_plays 181 = .ok (.aload_n 0, 1) := by decide +kernel
theorem dX9_plays_182 : decode cX9_plays 182 = .ok (.getfield 7, 3) := by decide +kernel
theorem dX9_plays_185 : decode cX9_plays 185 = .ok (.bipush 64, 2) := by decide +kernel
theorem dX9_plays_187 : decode cX9_plays 187 = .ok (.iconst 5, 1) := by decide +kernel
theorem dX9_plays_188 : decode cX9_plays 188 = .ok (.iload_n 2, 1) := by decide +kernel
theorem dX9_plays_189 : decode cX9_plays 189 = .ok (.imul, 1) := by decide +kernel
theorem dX9_plays_190 : decode cX9_plays 190 = .ok (.iadd, 1) := by decide +kernel
theorem dX9_plays_191 : decode cX9_plays 191 = .ok (.iconst 4, 1) := by decide +kernel
theorem dX9_plays_192 : decode cX9_plays 192 = .ok (.iadd, 1) := by decide +kernel
theorem dX9_plays_193 : decode cX9_plays 193 = .ok (.dup2, 1) := by decide +kernel
theorem dX9_plays_194 : decode cX9_plays 194 = .ok (.iaload, 1) := by decide +kernel
theorem dX9_plays_195 : decode cX9_plays 195 = .ok (.aload_n 0, 1) := by decide +kernel
theorem dX9_plays_196 : decode cX9_plays 196 = .ok (.iload_n 1, 1) := by decide +kernel
theorem dX9_plays_197 : decode cX9_plays 197 = .ok (.iload_n 3, 1) := by decide +kernel
theorem dX9_plays_198 : decode cX9_plays 198 = .ok (.invokevirtual 96, 3) := by decide +kernel
theorem dX9_plays_201 : decode cX9_plays 201 = .ok (.isub, 1) := by decide +kernel
theorem dX9_plays_202 : decode cX9_plays 202 = .ok (.iastore, 1) := by decide +kernel
theorem dX9_plays_203 : decode cX9_plays 203 = .ok (.aload_n 0, 1) := by decide +kernel
theorem dX9_plays_204 : decode cX9_plays 204 = .ok (.getfield 7, 3) := by decide +kernel
theorem dX9_plays_207 : decode cX9_plays 207 = .ok (.bipush 7, 2) := by decide +kernel
theorem dX9_plays_209 : decode cX9_plays 209 = .ok (.iconst 0, 1) := by decide +kernel
theorem dX9_plays_210 : decode cX9_plays 210 = .ok (.iastore, 1) := by decide +kernel
theorem dX9_plays_211 : decode cX9_plays 211 = .ok (.aload_n 0, 1) := by decide +kernel
theorem dX9_plays_212 : decode cX9_plays 212 = .ok (.getfield 7, 3) := by decide +kernel
theorem dX9_plays_215 : decode cX9_plays 215 = .ok (.iconst 4, 1) := by decide +kernel
theorem dX9_plays_216 : decode cX9_plays 216 = .ok (.dup2, 1) := by decide +kernel
theorem dX9_plays_217 : decode cX9_plays 217 = .ok (.iaload, 1) := by decide +kernel
theorem dX9_plays_218 : decode cX9_plays 218 = .ok (.iconst 1, 1) := by decide +kernel
theorem dX9_plays_219 : decode cX9_plays 219 = .ok (.iadd, 1) := by decide +kernel
theorem dX9_plays_220 : decode cX9_plays 220 = .ok (.iastore, 1) := by decide +kernel
theorem dX9_plays_221 : decode cX9_plays 221 = .ok (.aload_n 0, 1) := by decide +kernel
theorem dX9_plays_222 : decode cX9_plays 222 = .ok (.getfield 7, 3) := by decide +kernel
theorem dX9_plays_225 : decode cX9_plays 225 = .ok (.iconst 4, 1) := by decide +kernel
theorem dX9_plays_226 : decode cX9_plays 226 = .ok (.iaload, 1) := by decide +kernel
theorem dX9_plays_227 : decode cX9_plays 227 = .ok (.iconst 1, 1) := by decide +kernel
theorem dX9_plays_228 : decode cX9_plays 228 = .ok (.isub, 1) := by decide +kernel
theorem dX9_plays_229 : decode cX9_plays 229 = .ok (.ireturn, 1) := by decide +kernel
theorem dX9_transfer_0 : decode cX9_transfer 0 = .ok (.aload_n 0, 1) := by decide +kernel
theorem dX9_transfer_1 : decode cX9_transfer 1 = .ok (.iload_n 1, 1) := by decide +kernel
theorem dX9_transfer_2 : decode cX9_transfer 2 = .ok (.iload_n 2, 1) := by decide +kernel
theorem dX9_transfer_3 : decode cX9_transfer 3 = .ok (.iload_n 3, 1) := by decide +kernel
theorem dX9_transfer_4 : decode cX9_transfer 4 = .ok (.iload 4, 2) := by decide +kernel
theorem dX9_transfer_6 : decode cX9_transfer 6 = .ok (.iconst 1, 1) := by decide +kernel
theorem dX9_transfer_7 : decode cX9_transfer 7 = .ok (.invokevirtual 112, 3) := by decide +kernel
theorem dX9_transfer_10 : decode cX9_transfer 10 = .ok (.ireturn, 1) := by decide +kernel
theorem dX9_least_0 : decode cX9_least 0 = .ok (.sipush 1000, 3) := by decide +kernel
theorem dX9_least_3 : decode cX9_least 3 = .ok (.istore_n 3, 1) := by decide +kernel
theorem dX9_least_4 : decode cX9_least 4 = .ok (.iconst 0, 1) := by decide +kernel
theorem dX9_least_5 : decode cX9_least 5 = .ok (.istore 4, 2) := by decide +kernel
theorem dX9_least_7 : decode cX9_least 7 = .ok (.iload 4, 2) := by decide +kernel
theorem dX9_least_9 : decode cX9_least 9 = .ok (.iconst 4, 1) := by decide +kernel
theorem dX9_least_10 : decode cX9_least 10 = .ok (.if_icmp .ge 40, 3) := by decide +kernel
theorem dX9_least_13 : decode cX9_least 13 = .ok (.iload_n 2, 1) := by decide +kernel
theorem dX9_least_14 : decode cX9_least 14 = .ok (.iload 4, 2) := by decide +kernel
theorem dX9_least_16 : decode cX9_least 16 = .ok (.ishr, 1) := by decide +kernel
theorem dX9_least_17 : decode cX9_least 17 = .ok (.iconst 1, 1) := by decide +kernel
theorem dX9_least_18 : decode cX9_least 18 = .ok (.iand, 1) := by decide +kernel
theorem dX9_least_19 : decode cX9_least 19 = .ok (.iconst 1, 1) := by decide +kernel
theorem dX9_least_20 : decode cX9_least 20 = .ok (.if_icmp .ne 22, 3) := by decide +kernel
theorem dX9_least_23 : decode cX9_least 23 = .ok (.aload_n 0, 1) := by decide +kernel
theorem dX9_least_24 : decode cX9_least 24 = .ok (.iload_n 1, 1) := by decide +kernel
theorem dX9_least_25 : decode cX9_least 25 = .ok (.iload 4, 2) := by decide +kernel
theorem dX9_least_27 : decode cX9_least 27 = .ok (.iadd, 1) := by decide +kernel
theorem dX9_least_28 : decode cX9_least 28 = .ok (.iaload, 1) := by decide +kernel
theorem dX9_least_29 : decode cX9_least 29 = .ok (.iload_n 3, 1) := by decide +kernel
theorem dX9_least_30 : decode cX9_least 30 = .ok (.if_icmp .ge 12, 3) := by decide +kernel
theorem dX9_least_33 : decode cX9_least 33 = .ok (.aload_n 0, 1) := by decide +kernel
theorem dX9_least_34 : decode cX9_least 34 = .ok (.iload_n 1, 1) := by decide +kernel
theorem dX9_least_35 : decode cX9_least 35 = .ok (.iload 4, 2) := by decide +kernel
theorem dX9_least_37 : decode cX9_least 37 = .ok (.iadd, 1) := by decide +kernel
theorem dX9_least_38 : decode cX9_least 38 = .ok (.iaload, 1) := by decide +kernel
theorem dX9_least_39 : decode cX9_least 39 = .ok (.goto 4, 3) := by decide +kernel
theorem dX9_least_42 : decode cX9_least 42 = .ok (.iload_n 3, 1) := by decide +kernel
theorem dX9_least_43 : decode cX9_least 43 = .ok (.istore_n 3, 1) := by decide +kernel
theorem dX9_least_44 : decode cX9_least 44 = .ok (.iinc 4 1, 3) := by decide +kernel
theorem dX9_least_47 : decode cX9_least 47 = .ok (.goto (-40), 3) := by decide +kernel
theorem dX9_least_50 : decode cX9_least 50 = .ok (.iload_n 3, 1) := by decide +kernel
theorem dX9_least_51 : decode cX9_least 51 = .ok (.ireturn, 1) := by decide +kernel
theorem dX9_qualityIn_0 : decode cX9_qualityIn 0 = .ok (.sipush 420, 3) := by decide +kernel
theorem dX9_qualityIn_3 : decode cX9_qualityIn 3 = .ok (.bipush 9, 2) := by decide +kernel
theorem dX9_qualityIn_5 : decode cX9_qualityIn 5 = .ok (.iload_n 1, 1) := by decide +kernel
theorem dX9_qualityIn_6 : decode cX9_qualityIn 6 = .ok (.imul, 1) := by decide +kernel
theorem dX9_qualityIn_7 : decode cX9_qualityIn 7 = .ok (.iadd, 1) := by decide +kernel
theorem dX9_qualityIn_8 : decode cX9_qualityIn 8 = .ok (.istore_n 3, 1) := by decide +kernel
theorem dX9_qualityIn_9 : decode cX9_qualityIn 9 = .ok (.bipush 84, 2) := by decide +kernel
theorem dX9_qualityIn_11 : decode cX9_qualityIn 11 = .ok (.iconst 5, 1) := by decide +kernel
theorem dX9_qualityIn_12 : decode cX9_qualityIn 12 = .ok (.iload_n 2, 1) := by decide +kernel
theorem dX9_qualityIn_13 : decode cX9_qualityIn 13 = .ok (.imul, 1) := by decide +kernel
theorem dX9_qualityIn_14 : decode cX9_qualityIn 14 = .ok (.iadd, 1) := by decide +kernel
theorem dX9_qualityIn_15 : decode cX9_qualityIn 15 = .ok (.istore 4, 2) := by decide +kernel
theorem dX9_qualityIn_17 : decode cX9_qualityIn 17 = .ok (.aload_n 0, 1) := by decide +kernel
theorem dX9_qualityIn_18 : decode cX9_qualityIn 18 = .ok (.getfield 7, 3) := by decide +kernel
theorem dX9_qualityIn_21 : decode cX9_qualityIn 21 = .ok (.iload_n 3, 1) := by decide +kernel
theorem dX9_qualityIn_22 : decode cX9_qualityIn 22 = .ok (.iaload, 1) := by decide +kernel
theorem dX9_qualityIn_23 : decode cX9_qualityIn 23 = .ok (.aload_n 0, 1) := by decide +kernel
theorem dX9_qualityIn_24 : decode cX9_qualityIn 24 = .ok (.getfield 7, 3) := by decide +kernel
theorem dX9_qualityIn_27 : decode cX9_qualityIn 27 = .ok (.iload 4, 2) := by decide +kernel
theorem dX9_qualityIn_29 : decode cX9_qualityIn 29 = .ok (.iaload, 1) := by decide +kernel
theorem dX9_qualityIn_30 : decode cX9_qualityIn 30 = .ok (.if_icmp .ne 25, 3) := by decide +kernel
theorem dX9_qualityIn_33 : decode cX9_qualityIn 33 = .ok (.aload_n 0, 1) := by decide +kernel
theorem dX9_qualityIn_34 : decode cX9_qualityIn 34 = .ok (.getfield 7, 3) := by decide +kernel
theorem dX9_qualityIn_37 : decode cX9_qualityIn 37 = .ok (.iload_n 3, 1) := by decide +kernel
theorem dX9_qualityIn_38 : decode cX9_qualityIn 38 = .ok (.iconst 5, 1) := by decide +kernel
theorem dX9_qualityIn_39 : decode cX9_qualityIn 39 = .ok (.iadd, 1) := by decide +kernel
theorem dX9_qualityIn_40 : decode cX9_qualityIn 40 = .ok (.aload_n 0, 1) := by decide +kernel
theorem dX9_qualityIn_41 : decode cX9_qualityIn 41 = .ok (.getfield 7, 3) := by decide +kernel
theorem dX9_qualityIn_44 : decode cX9_qualityIn 44 = .ok (.iload 4, 2) := by decide +kernel
theorem dX9_qualityIn_46 : decode cX9_qualityIn 46 = .ok (.iconst 1, 1) := by decide +kernel
theorem dX9_qualityIn_47 : decode cX9_qualityIn 47 = .ok (.iadd, 1) := by decide +kernel
theorem dX9_qualityIn_48 : decode cX9_qualityIn 48 = .ok (.iaload, 1) := by decide +kernel
theorem dX9_qualityIn_49 : decode cX9_qualityIn 49 = .ok (.invokestatic 116, 3) := by decide +kernel
theorem dX9_qualityIn_52 : decode cX9_qualityIn 52 = .ok (.goto 4, 3) := by decide +kernel
theorem dX9_qualityIn_55 : decode cX9_qualityIn 55 = .ok (.iconst 0, 1) := by decide +kernel
theorem dX9_qualityIn_56 : decode cX9_qualityIn 56 = .ok (.ireturn, 1) := by decide +kernel
theorem dX9_bestFor_0 : decode cX9_bestFor 0 = .ok (.iconst (-1), 1) := by decide +kernel
theorem dX9_bestFor_1 : decode cX9_bestFor 1 = .ok (.istore_n 2, 1) := by decide +kernel
theorem dX9_bestFor_2 : decode cX9_bestFor 2 = .ok (.iconst 0, 1) := by decide +kernel
theorem dX9_bestFor_3 : decode cX9_bestFor 3 = .ok (.istore_n 3, 1) := by decide +kernel
theorem dX9_bestFor_4 : decode cX9_bestFor 4 = .ok (.iconst 0, 1) := by decide +kernel
theorem dX9_bestFor_5 : decode cX9_bestFor 5 = .ok (.istore 4, 2) := by decide +kernel
theorem dX9_bestFor_7 : decode cX9_bestFor 7 = .ok (.iload 4, 2) := by decide +kernel
theorem dX9_bestFor_9 : decode cX9_bestFor 9 = .ok (.aload_n 0, 1) := by decide +kernel
theorem dX9_bestFor_10 : decode cX9_bestFor 10 = .ok (.getfield 7, 3) := by decide +kernel
theorem dX9_bestFor_13 : decode cX9_bestFor 13 = .ok (.iconst 4, 1) := by decide +kernel
theorem dX9_bestFor_14 : decode cX9_bestFor 14 = .ok (.iaload, 1) := by decide +kernel
theorem dX9_bestFor_15 : decode cX9_bestFor 15 = .ok (.if_icmp .ge 44, 3) := by decide +kernel
theorem dX9_bestFor_18 : decode cX9_bestFor 18 = .ok (.aload_n 0, 1) := by decide +kernel
theorem dX9_bestFor_19 : decode cX9_bestFor 19 = .ok (.iload 4, 2) := by decide +kernel
theorem dX9_bestFor_21 : decode cX9_bestFor 21 = .ok (.iload_n 1, 1) := by decide +kernel
theorem dX9_bestFor_22 : decode cX9_bestFor 22 = .ok (.invokevirtual 120, 3) := by decide +kernel
theorem dX9_bestFor_25 : decode cX9_bestFor 25 = .ok (.istore 5, 2) := by decide +kernel
theorem dX9_bestFor_27 : decode cX9_bestFor 27 = .ok (.iload 5, 2) := by decide +kernel
theorem dX9_bestFor_29 : decode cX9_bestFor 29 = .ok (.iload_n 3, 1) := by decide +kernel
theorem dX9_bestFor_30 : decode cX9_bestFor 30 = .ok (.if_icmp .le 8, 3) := by decide +kernel
theorem dX9_bestFor_33 : decode cX9_bestFor 33 = .ok (.iload 4, 2) := by decide +kernel
theorem dX9_bestFor_35 : decode cX9_bestFor 35 = .ok (.goto 4, 3) := by decide +kernel
theorem dX9_bestFor_38 : decode cX9_bestFor 38 = .ok (.iload_n 2, 1) := by decide +kernel
theorem dX9_bestFor_39 : decode cX9_bestFor 39 = .ok (.istore_n 2, 1) := by decide +kernel
theorem dX9_bestFor_40 : decode cX9_bestFor 40 = .ok (.iload 5, 2) := by decide +kernel
theorem dX9_bestFor_42 : decode cX9_bestFor 42 = .ok (.iload_n 3, 1) := by decide +kernel
theorem dX9_bestFor_43 : decode cX9_bestFor 43 = .ok (.if_icmp .le 8, 3) := by decide +kernel
theorem dX9_bestFor_46 : decode cX9_bestFor 46 = .ok (.iload 5, 2) := by decide +kernel
theorem dX9_bestFor_48 : decode cX9_bestFor 48 = .ok (.goto 4, 3) := by decide +kernel
theorem dX9_bestFor_51 : decode cX9_bestFor 51 = .ok (.iload_n 3, 1) := by decide +kernel
theorem dX9_bestFor_52 : decode cX9_bestFor 52 = .ok (.istore_n 3, 1) := by decide +kernel
theorem dX9_bestFor_53 : decode cX9_bestFor 53 = .ok (.iinc 4 1, 3) := by decide +kernel
theorem dX9_bestFor_56 : decode cX9_bestFor 56 = .ok (.goto (-49), 3) := by decide +kernel
theorem dX9_bestFor_59 : decode cX9_bestFor 59 = .ok (.iload_n 2, 1) := by decide +kernel
theorem dX9_bestFor_60 : decode cX9_bestFor 60 = .ok (.ireturn, 1) := by decide +kernel
theorem dX9_permit_0 : decode cX9_permit 0 = .ok (.iload_n 1, 1) := by decide +kernel
theorem dX9_permit_1 : decode cX9_permit 1 = .ok (.iconst 0, 1) := by decide +kernel
theorem dX9_permit_2 : decode cX9_permit 2 = .ok (.bipush 7, 2) := by decide +kernel
theorem dX9_permit_4 : decode cX9_permit 4 = .ok (.invokestatic 42, 3) := by decide +kernel
theorem dX9_permit_7 : decode cX9_permit 7 = .ok (.ifCond .eq 34, 3) := by decide +kernel
theorem dX9_permit_10 : decode cX9_permit 10 = .ok (.iload_n 2, 1) := by decide +kernel
theorem dX9_permit_11 : decode cX9_permit 11 = .ok (.iconst 0, 1) := by decide +kernel
theorem dX9_permit_12 : decode cX9_permit 12 = .ok (.bipush 7, 2) := by decide +kernel
theorem dX9_permit_14 : decode cX9_permit 14 = .ok (.invokestatic 42, 3) := by decide +kernel
theorem dX9_permit_17 : decode cX9_permit 17 = .ok (.ifCond .eq 24, 3) := by decide +kernel
theorem dX9_permit_20 : decode cX9_permit 20 = .ok (.iload_n 3, 1) := by decide +kernel
theorem dX9_permit_21 : decode cX9_permit 21 = .ok (.iconst 0, 1) := by decide +kernel
theorem dX9_permit_22 : decode cX9_permit 22 = .ok (.iconst 2, 1) := by decide +kernel
theorem dX9_permit_23 : decode cX9_permit 23 = .ok (.invokestatic 42, 3) := by decide +kernel
theorem dX9_permit_26 : decode cX9_permit 26 = .ok (.ifCond .eq 15, 3) := by decide +kernel
theorem dX9_permit_29 : decode cX9_permit 29 = .ok (.iload 4, 2) := by decide +kernel
theorem dX9_permit_31 : decode cX9_permit 31 = .ok (.iconst 0, 1) := by decide +kernel
theorem dX9_permit_32 : decode cX9_permit 32 = .ok (.sipush 9999, 3) := by decide +kernel
theorem dX9_permit_35 : decode cX9_permit 35 = .ok (.invokestatic 42, 3) := by decide +kernel
theorem dX9_permit_38 : decode cX9_permit 38 = .ok (.ifCond .ne 6, 3) := by decide +kernel
theorem dX9_permit_41 : decode cX9_permit 41 = .ok (.bipush (-2), 2) := by decide +kernel
theorem dX9_permit_43 : decode cX9_permit 43 = .ok (.ireturn, 1) := by decide +kernel
theorem dX9_permit_44 : decode cX9_permit 44 = .ok (.aload_n 0, 1) := by decide +kernel
theorem dX9_permit_45 : decode cX9_permit 45 = .ok (.getfield 7, 3) := by decide +kernel
theorem dX9_permit_48 : decode cX9_permit 48 = .ok (.iconst 5, 1) := by decide +kernel
theorem dX9_permit_49 : decode cX9_permit 49 = .ok (.iaload, 1) := by decide +kernel
theorem dX9_permit_50 : decode cX9_permit 50 = .ok (.bipush 24, 2) := by decide +kernel
theorem dX9_permit_52 : decode cX9_permit 52 = .ok (.if_icmp .ne 6, 3) := by decide +kernel
theorem dX9_permit_55 : decode cX9_permit 55 = .ok (.bipush (-4), 2) := by decide +kernel
theorem dX9_permit_57 : decode cX9_permit 57 = .ok (.ireturn, 1) := by decide +kernel
theorem dX9_permit_58 : decode cX9_permit 58 = .ok (.aload_n 0, 1) := by decide +kernel
theorem dX9_permit_59 : decode cX9_permit 59 = .ok (.invokevirtual 54, 3) := by decide +kernel
theorem dX9_permit_62 : decode cX9_permit 62 = .ok (.sipush 636, 3) := by decide +kernel
theorem dX9_permit_65 : decode cX9_permit 65 = .ok (.iconst 5, 1) := by decide +kernel
theorem dX9_permit_66 : decode cX9_permit 66 = .ok (.aload_n 0, 1) := by decide +kernel
theorem dX9_permit_67 : decode cX9_permit 67 = .ok (.getfield 7, 3) := by decide +kernel
theorem dX9_permit_70 : decode cX9_permit 70 = .ok (.iconst 5, 1) := by decide +kernel
theorem dX9_permit_71 : decode cX9_permit 71 = .ok (.iaload, 1) := by decide +kernel
theorem dX9_permit_72 : decode cX9_permit 72 = .ok (.imul, 1) := by decide +kernel
theorem dX9_permit_73 : decode cX9_permit 73 = .ok (.iadd, 1) := by decide +kernel
theorem dX9_permit_74 : decode cX9_permit 74 = .ok (.istore 5, 2) := by decide +kernel
theorem dX9_permit_76 : decode cX9_permit 76 = .ok (.aload_n 0, 1) := by decide +kernel
theorem dX9_permit_77 : decode cX9_permit 77 = .ok (.getfield 7, 3) := by decide +kernel
theorem dX9_permit_80 : decode cX9_permit 80 = .ok (.iload 5, 2) := by decide +kernel
theorem dX9_permit_82 : decode cX9_permit 82 = .ok (.iload_n 1, 1) := by decide +kernel
theorem dX9_permit_83 : decode cX9_permit 83 = .ok (.iastore, 1) := by decide +kernel
theorem dX9_permit_84 : decode cX9_permit 84 = .ok (.aload_n 0, 1) := by decide +kernel
theorem dX9_permit_85 : decode cX9_permit 85 = .ok (.getfield 7, 3) := by decide +kernel
theorem dX9_permit_88 : decode cX9_permit 88 = .ok (.iload 5, 2) := by decide +kernel
theorem dX9_permit_90 : decode cX9_permit 90 = .ok (.iconst 1, 1) := by decide +kernel
theorem dX9_permit_91 : decode cX9_permit 91 = .ok (.iadd, 1) := by decide +kernel
theorem dX9_permit_92 : decode cX9_permit 92 = .ok (.iload_n 2, 1) := by decide +kernel
theorem dX9_permit_93 : decode cX9_permit 93 = .ok (.iastore, 1) := by decide +kernel
theorem dX9_permit_94 : decode cX9_permit 94 = .ok (.aload_n 0, 1) := by decide +kernel
theorem dX9_permit_95 : decode cX9_permit 95 = .ok (.getfield 7, 3) := by decide +kernel
theorem dX9_permit_98 : decode cX9_permit 98 = .ok (.iload 5, 2) := by decide +kernel
theorem dX9_permit_100 : decode cX9_permit 100 = .ok (.iconst 2, 1) := by decide +kernel
theorem dX9_permit_101 : decode cX9_permit 101 = .ok (.iadd, 1) := by decide +kernel
theorem dX9_permit_102 : decode cX9_permit 102 = .ok (.iload_n 3, 1) := by decide +kernel
theorem dX9_permit_103 : decode cX9_permit 103 = .ok (.iastore, 1) := by decide +kernel
theorem dX9_permit_104 : decode cX9_permit 104 = .ok (.aload_n 0, 1) := by decide +kernel
theorem dX9_permit_105 : decode cX9_permit 105 = .ok (.getfield 7, 3) := by decide +kernel
theorem dX9_permit_108 : decode cX9_permit 108 = .ok (.iload 5, 2) := by decide +kernel
theorem dX9_permit_110 : decode cX9_permit 110 = .ok (.iconst 3, 1) := by decide +kernel
theorem dX9_permit_111 : decode cX9_permit 111 = .ok (.iadd, 1) := by decide +kernel
theorem dX9_permit_112 : decode cX9_permit 112 = .ok (.iload 4, 2) := by decide +kernel
theorem dX9_permit_114 : decode cX9_permit 114 = .ok (.iastore, 1) := by decide +kernel
theorem dX9_permit_115 : decode cX9_permit 115 = .ok (.aload_n 0, 1) := by decide +kernel
theorem dX9_permit_116 : decode cX9_permit 116 = .ok (.getfield 7, 3) := by decide +kernel
theorem dX9_permit_119 : decode cX9_permit 119 = .ok (.iload 5, 2) := by decide +kernel
theorem dX9_permit_121 : decode cX9_permit 121 = .ok (.iconst 4, 1) := by decide +kernel
theorem dX9_permit_122 : decode cX9_permit 122 = .ok (.iadd, 1) := by decide +kernel
theorem dX9_permit_123 : decode cX9_permit 123 = .ok (.iconst 0, 1) := by decide +kernel
theorem dX9_permit_124 : decode cX9_permit 124 = .ok (.iastore, 1) := by decide +kernel
theorem dX9_permit_125 : decode cX9_permit 125 = .ok (.aload_n 0, 1) := by decide +kernel
theorem dX9_permit_126 : decode cX9_permit 126 = .ok (.getfield 7, 3) := by decide +kernel
theorem dX9_permit_129 : decode cX9_permit 129 = .ok (.iconst 5, 1) := by decide +kernel
theorem dX9_permit_130 : decode cX9_permit 130 = .ok (.dup2, 1) := by decide +kernel
theorem dX9_permit_131 : decode cX9_permit 131 = .ok (.iaload, 1) := by decide +kernel
theorem dX9_permit_132 : decode cX9_permit 132 = .ok (.iconst 1, 1) := by decide +kernel
theorem dX9_permit_133 : decode cX9_permit 133 = .ok (.iadd, 1) := by decide +kernel
theorem dX9_permit_134 : decode cX9_permit 134 = .ok (.iastore, 1) := by decide +kernel
theorem dX9_permit_135 : decode cX9_permit 135 = .ok (.aload_n 0, 1) := by decide +kernel
theorem dX9_permit_136 : decode cX9_permit 136 = .ok (.getfield 7, 3) := by decide +kernel
theorem dX9_permit_139 : decode cX9_permit 139 = .ok (.iconst 5, 1) := by decide +kernel
theorem dX9_permit_140 : decode cX9_permit 140 = .ok (.iaload, 1) := by decide +kernel
theorem dX9_permit_141 : decode cX9_permit 141 = .ok (.iconst 1, 1) := by decide +kernel
theorem dX9_permit_142 : decode cX9_permit 142 = .ok (.isub, 1) := by decide +kernel
theorem dX9_permit_143 : decode cX9_permit 143 = .ok (.ireturn, 1) := by decide +kernel
theorem dX9_revoke_0 : decode cX9_revoke 0 = .ok (.aload_n 0, 1) := by decide +kernel
theorem dX9_revoke_1 : decode cX9_revoke 1 = .ok (.iconst 5, 1) := by decide +kernel
theorem dX9_revoke_2 : decode cX9_revoke 2 = .ok (.iload_n 1, 1) := by decide +kernel
theorem dX9_revoke_3 : decode cX9_revoke 3 = .ok (.invokevirtual 64, 3) := by decide +kernel
theorem dX9_revoke_6 : decode cX9_revoke 6 = .ok (.ifCond .ne 5, 3) := by decide +kernel
theorem dX9_revoke_9 : decode cX9_revoke 9 = .ok (.iconst (-1), 1) := by decide +kernel
theorem dX9_revoke_10 : decode cX9_revoke 10 = .ok (.ireturn, 1) := by decide +kernel
theorem dX9_revoke_11 : decode cX9_revoke 11 = .ok (.aload_n 0, 1) := by decide +kernel
theorem dX9_revoke_12 : decode cX9_revoke 12 = .ok (.getfield 7, 3) := by decide +kernel
theorem dX9_revoke_15 : decode cX9_revoke 15 = .ok (.sipush 636, 3) := by decide +kernel
theorem dX9_revoke_18 : decode cX9_revoke 18 = .ok (.iconst 5, 1) := by decide +kernel
theorem dX9_revoke_19 : decode cX9_revoke 19 = .ok (.iload_n 1, 1) := by decide +kernel
theorem dX9_revoke_20 : decode cX9_revoke 20 = .ok (.imul, 1) := by decide +kernel
theorem dX9_revoke_21 : decode cX9_revoke 21 = .ok (.iadd, 1) := by decide +kernel
theorem dX9_revoke_22 : decode cX9_revoke 22 = .ok (.iconst 4, 1) := by decide +kernel
theorem dX9_revoke_23 : decode cX9_revoke 23 = .ok (.iadd, 1) := by decide +kernel
theorem dX9_revoke_24 : decode cX9_revoke 24 = .ok (.iaload, 1) := by decide +kernel
theorem dX9_revoke_25 : decode cX9_revoke 25 = .ok (.iconst 1, 1) := by decide +kernel
theorem dX9_revoke_26 : decode cX9_revoke 26 = .ok (.if_icmp .ne 6, 3) := by decide +kernel
theorem dX9_revoke_29 : decode cX9_revoke 29 = .ok (.bipush (-3), 2) := by decide +kernel
theorem dX9_revoke_31 : decode cX9_revoke 31 = .ok (.ireturn, 1) := by decide +kernel
theorem dX9_revoke_32 : decode cX9_revoke 32 = .ok (.aload_n 0, 1) := by decide +kernel
theorem dX9_revoke_33 : decode cX9_revoke 33 = .ok (.invokevirtual 54, 3) := by decide +kernel
theorem dX9_revoke_36 : decode cX9_revoke 36 = .ok (.aload_n 0, 1) := by decide +kernel
theorem dX9_revoke_37 : decode cX9_revoke 37 = .ok (.getfield 7, 3) := by decide +kernel
theorem dX9_revoke_40 : decode cX9_revoke 40 = .ok (.sipush 636, 3) := by decide +kernel
theorem dX9_revoke_43 : decode cX9_revoke 43 = .ok (.iconst 5, 1) := by decide +kernel
theorem dX9_revoke_44 : decode cX9_revoke 44 = .ok (.iload_n 1, 1) := by decide +kernel
theorem dX9_revoke_45 : decode cX9_revoke 45 = .ok (.imul, 1) := by decide +kernel
theorem dX9_revoke_46 : decode cX9_revoke 46 = .ok (.iadd, 1) := by decide +kernel
theorem dX9_revoke_47 : decode cX9_revoke 47 = .ok (.iconst 4, 1) := by decide +kernel
theorem dX9_revoke_48 : decode cX9_revoke 48 = .ok (.iadd, 1) := by decide +kernel
theorem dX9_revoke_49 : decode cX9_revoke 49 = .ok (.iconst 1, 1) := by decide +kernel
theorem dX9_revoke_50 : decode cX9_revoke 50 = .ok (.iastore, 1) := by decide +kernel
theorem dX9_revoke_51 : decode cX9_revoke 51 = .ok (.iconst 0, 1) := by decide +kernel
theorem dX9_revoke_52 : decode cX9_revoke 52 = .ok (.istore_n 2, 1) := by decide +kernel
theorem dX9_revoke_53 : decode cX9_revoke 53 = .ok (.iconst 0, 1) := by decide +kernel
theorem dX9_revoke_54 : decode cX9_revoke 54 = .ok (.istore_n 3, 1) := by decide +kernel
theorem dX9_revoke_55 : decode cX9_revoke 55 = .ok (.iload_n 3, 1) := by decide +kernel
theorem dX9_revoke_56 : decode cX9_revoke 56 = .ok (.aload_n 0, 1) := by decide +kernel
theorem dX9_revoke_57 : decode cX9_revoke 57 = .ok (.getfield 7, 3) := by decide +kernel
theorem dX9_revoke_60 : decode cX9_revoke 60 = .ok (.iconst 5, 1) := by decide +kernel
theorem dX9_revoke_61 : decode cX9_revoke 61 = .ok (.iaload, 1) := by decide +kernel
theorem dX9_revoke_62 : decode cX9_revoke 62 = .ok (.if_icmp .ge 28, 3) := by decide +kernel
theorem dX9_revoke_65 : decode cX9_revoke 65 = .ok (.iload_n 2, 1) := by decide +kernel
theorem dX9_revoke_66 : decode cX9_revoke 66 = .ok (.iconst 1, 1) := by decide +kernel
theorem dX9_revoke_67 : decode cX9_revoke 67 = .ok (.aload_n 0, 1) := by decide +kernel
theorem dX9_revoke_68 : decode cX9_revoke 68 = .ok (.getfield 7, 3) := by decide +kernel
theorem dX9_revoke_71 : decode cX9_revoke 71 = .ok (.sipush 636, 3) := by decide +kernel
theorem dX9_revoke_74 : decode cX9_revoke 74 = .ok (.iconst 5, 1) := by decide +kernel
theorem dX9_revoke_75 : decode cX9_revoke 75 = .ok (.iload_n 3, 1) := by decide +kernel
theorem dX9_revoke_76 : decode cX9_revoke 76 = .ok (.imul, 1) := by decide +kernel
theorem dX9_revoke_77 : decode cX9_revoke 77 = .ok (.iadd, 1) := by decide +kernel
theorem dX9_revoke_78 : decode cX9_revoke 78 = .ok (.iconst 4, 1) := by decide +kernel
theorem dX9_revoke_79 : decode cX9_revoke 79 = .ok (.iadd, 1) := by decide +kernel
theorem dX9_revoke_80 : decode cX9_revoke 80 = .ok (.iaload, 1) := by decide +kernel
theorem dX9_revoke_81 : decode cX9_revoke 81 = .ok (.isub, 1) := by decide +kernel
theorem dX9_revoke_82 : decode cX9_revoke 82 = .ok (.iadd, 1) := by decide +kernel
theorem dX9_revoke_83 : decode cX9_revoke 83 = .ok (.istore_n 2, 1) := by decide +kernel
theorem dX9_revoke_84 : decode cX9_revoke 84 = .ok (.iinc 3 1, 3) := by decide +kernel
theorem dX9_revoke_87 : decode cX9_revoke 87 = .ok (.goto (-32), 3) := by decide +kernel
theorem dX9_revoke_90 : decode cX9_revoke 90 = .ok (.iload_n 2, 1) := by decide +kernel
theorem dX9_revoke_91 : decode cX9_revoke 91 = .ok (.ireturn, 1) := by decide +kernel
theorem dX9_isPermitted_0 : decode cX9_isPermitted 0 = .ok (.iconst 0, 1) := by decide +kernel
theorem dX9_isPermitted_1 : decode cX9_isPermitted 1 = .ok (.istore 4, 2) := by decide +kernel
theorem dX9_isPermitted_3 : decode cX9_isPermitted 3 = .ok (.iconst 0, 1) := by decide +kernel
theorem dX9_isPermitted_4 : decode cX9_isPermitted 4 = .ok (.istore 5, 2) := by decide +kernel
theorem dX9_isPermitted_6 : decode cX9_isPermitted 6 = .ok (.iload 5, 2) := by decide +kernel
theorem dX9_isPermitted_8 : decode cX9_isPermitted 8 = .ok (.aload_n 0, 1) := by decide +kernel
theorem dX9_isPermitted_9 : decode cX9_isPermitted 9 = .ok (.getfield 7, 3) := by decide +kernel
theorem dX9_isPermitted_12 : decode cX9_isPermitted 12 = .ok (.iconst 5, 1) := by decide +kernel
theorem dX9_isPermitted_13 : decode cX9_isPermitted 13 = .ok (.iaload, 1) := by decide +kernel
theorem dX9_isPermitted_14 : decode cX9_isPermitted 14 = .ok (.if_icmp .ge 98, 3) := by decide +kernel
theorem dX9_isPermitted_17 : decode cX9_isPermitted 17 = .ok (.sipush 636, 3) := by decide +kernel
theorem dX9_isPermitted_20 : decode cX9_isPermitted 20 = .ok (.iconst 5, 1) := by decide +kernel
theorem dX9_isPermitted_21 : decode cX9_isPermitted 21 = .ok (.iload 5, 2) := by decide +kernel
theorem dX9_isPermitted_23 : decode cX9_isPermitted 23 = .ok (.imul, 1) := by decide +kernel
theorem dX9_isPermitted_24 : decode cX9_isPermitted 24 = .ok (.iadd, 1) := by decide +kernel
theorem dX9_isPermitted_25 : decode cX9_isPermitted 25 = .ok (.istore 6, 2) := by decide +kernel
theorem dX9_isPermitted_27 : decode cX9_isPermitted 27 = .ok (.iload 4, 2) := by decide +kernel
theorem dX9_isPermitted_29 : decode cX9_isPermitted 29 = .ok (.ifCond .ne 70, 3) := by decide +kernel
theorem dX9_isPermitted_32 : decode cX9_isPermitted 32 = .ok (.aload_n 0, 1) := by decide +kernel
theorem dX9_isPermitted_33 : decode cX9_isPermitted 33 = .ok (.getfield 7, 3) := by decide +kernel
theorem dX9_isPermitted_36 : decode cX9_isPermitted 36 = .ok (.iload 6, 2) := by decide +kernel
theorem dX9_isPermitted_38 : decode cX9_isPermitted 38 = .ok (.iaload, 1) := by decide +kernel
theorem dX9_isPermitted_39 : decode cX9_isPermitted 39 = .ok (.iload_n 1, 1) := by decide +kernel
theorem dX9_isPermitted_40 : decode cX9_isPermitted 40 = .ok (.if_icmp .ne 63, 3) := by decide +kernel
theorem dX9_isPermitted_43 : decode cX9_isPermitted 43 = .ok (.aload_n 0, 1) := by decide +kernel
theorem dX9_isPermitted_44 : decode cX9_isPermitted 44 = .ok (.getfield 7, 3) := by decide +kernel
theorem dX9_isPermitted_47 : decode cX9_isPermitted 47 = .ok (.iload 6, 2) := by decide +kernel
theorem dX9_isPermitted_49 : decode cX9_isPermitted 49 = .ok (.iconst 1, 1) := by decide +kernel
theorem dX9_isPermitted_50 : decode cX9_isPermitted 50 = .ok (.iadd, 1) := by decide +kernel
theorem dX9_isPermitted_51 : decode cX9_isPermitted 51 = .ok (.iaload, 1) := by decide +kernel
theorem dX9_isPermitted_52 : decode cX9_isPermitted 52 = .ok (.iload_n 2, 1) := by decide +kernel
theorem dX9_isPermitted_53 : decode cX9_isPermitted 53 = .ok (.if_icmp .ne 50, 3) := by decide +kernel
theorem dX9_isPermitted_56 : decode cX9_isPermitted 56 = .ok (.aload_n 0, 1) := by decide +kernel
theorem dX9_isPermitted_57 : decode cX9_isPermitted 57 = .ok (.getfield 7, 3) := by decide +kernel
theorem dX9_isPermitted_60 : decode cX9_isPermitted 60 = .ok (.iload 6, 2) := by decide +kernel
theorem dX9_isPermitted_62 : decode cX9_isPermitted 62 = .ok (.iconst 2, 1) := by decide +kernel
theorem dX9_isPermitted_63 : decode cX9_isPermitted 63 = .ok (.iadd, 1) := by decide +kernel
theorem dX9_isPermitted_64 : decode cX9_isPermitted 64 = .ok (.iaload, 1) := by decide +kernel
theorem dX9_isPermitted_65 : decode cX9_isPermitted 65 = .ok (.iload_n 3, 1) := by decide +kernel
theorem dX9_isPermitted_66 : decode cX9_isPermitted 66 = .ok (.if_icmp .lt 37, 3) := by decide +kernel
theorem dX9_isPermitted_69 : decode cX9_isPermitted 69 = .ok (.aload_n 0, 1) := by decide +kernel
theorem dX9_isPermitted_70 : decode cX9_isPermitted 70 = .ok (.getfield 7, 3) := by decide +kernel
theorem dX9_isPermitted_73 : decode cX9_isPermitted 73 = .ok (.iload 6, 2) := by decide +kernel
theorem dX9_isPermitted_75 : decode cX9_isPermitted 75 = .ok (.iconst 3, 1) := by decide +kernel
theorem dX9_isPermitted_76 : decode cX9_isPermitted 76 = .ok (.iadd, 1) := by decide +kernel
theorem dX9_isPermitted_77 : decode cX9_isPermitted 77 = .ok (.iaload, 1) := by decide +kernel
theorem dX9_isPermitted_78 : decode cX9_isPermitted 78 = .ok (.aload_n 0, 1) := by decide +kernel
theorem dX9_isPermitted_79 : decode cX9_isPermitted 79 = .ok (.getfield 7, 3) := by decide +kernel
theorem dX9_isPermitted_82 : decode cX9_isPermitted 82 = .ok (.iconst 0, 1) := by decide +kernel
theorem dX9_isPermitted_83 : decode cX9_isPermitted 83 = .ok (.iaload, 1) := by decide +kernel
theorem dX9_isPermitted_84 : decode cX9_isPermitted 84 = .ok (.if_icmp .lt 19, 3) := by decide +kernel
theorem dX9_isPermitted_87 : decode cX9_isPermitted 87 = .ok (.aload_n 0, 1) := by decide +kernel
theorem dX9_isPermitted_88 : decode cX9_isPermitted 88 = .ok (.getfield 7, 3) := by decide +kernel
theorem dX9_isPermitted_91 : decode cX9_isPermitted 91 = .ok (.iload 6, 2) := by decide +kernel
theorem dX9_isPermitted_93 : decode cX9_isPermitted 93 = .ok (.iconst 4, 1) := by decide +kernel
theorem dX9_isPermitted_94 : decode cX9_isPermitted 94 = .ok (.iadd, 1) := by decide +kernel
theorem dX9_isPermitted_95 : decode cX9_isPermitted 95 = .ok (.iaload, 1) := by decide +kernel
theorem dX9_isPermitted_96 : decode cX9_isPermitted 96 = .ok (.ifCond .ne 7, 3) := by decide +kernel
theorem dX9_isPermitted_99 : decode cX9_isPermitted 99 = .ok (.iconst 1, 1) := by decide +kernel
theorem dX9_isPermitted_100 : decode cX9_isPermitted 100 = .ok (.goto 4, 3) := by decide +kernel
theorem dX9_isPermitted_103 : decode cX9_isPermitted 103 = .ok (.iconst 0, 1) := by decide +kernel
theorem dX9_isPermitted_104 : decode cX9_isPermitted 104 = .ok (.istore 4, 2) := by decide +kernel
theorem dX9_isPermitted_106 : decode cX9_isPermitted 106 = .ok (.iinc 5 1, 3) := by decide +kernel
theorem dX9_isPermitted_109 : decode cX9_isPermitted 109 = .ok (.goto (-103), 3) := by decide +kernel
theorem dX9_isPermitted_112 : decode cX9_isPermitted 112 = .ok (.iload 4, 2) := by decide +kernel
theorem dX9_isPermitted_114 : decode cX9_isPermitted 114 = .ok (.ireturn, 1) := by decide +kernel
theorem dX9_shared_0 : decode cX9_shared 0 = .ok (.sipush 164, 3) := by decide +kernel
theorem dX9_shared_3 : decode cX9_shared 3 = .ok (.bipush 16, 2) := by decide +kernel
theorem dX9_shared_5 : decode cX9_shared 5 = .ok (.iload_n 1, 1) := by decide +kernel
theorem dX9_shared_6 : decode cX9_shared 6 = .ok (.imul, 1) := by decide +kernel
theorem dX9_shared_7 : decode cX9_shared 7 = .ok (.iadd, 1) := by decide +kernel
theorem dX9_shared_8 : decode cX9_shared 8 = .ok (.iconst 4, 1) := by decide +kernel
theorem dX9_shared_9 : decode cX9_shared 9 = .ok (.iload_n 2, 1) := by decide +kernel
theorem dX9_shared_10 : decode cX9_shared 10 = .ok (.imul, 1) := by decide +kernel
theorem dX9_shared_11 : decode cX9_shared 11 = .ok (.iadd, 1) := by decide +kernel
theorem dX9_shared_12 : decode cX9_shared 12 = .ok (.istore 6, 2) := by decide +kernel
theorem dX9_shared_14 : decode cX9_shared 14 = .ok (.aload_n 0, 1) := by decide +kernel
theorem dX9_shared_15 : decode cX9_shared 15 = .ok (.getfield 7, 3) := by decide +kernel
theorem dX9_shared_18 : decode cX9_shared 18 = .ok (.iload 6, 2) := by decide +kernel
theorem dX9_shared_20 : decode cX9_shared 20 = .ok (.iaload, 1) := by decide +kernel
theorem dX9_shared_21 : decode cX9_shared 21 = .ok (.iload_n 3, 1) := by decide +kernel
theorem dX9_shared_22 : decode cX9_shared 22 = .ok (.if_icmp .le 13, 3) := by decide +kernel
theorem dX9_shared_25 : decode cX9_shared 25 = .ok (.aload_n 0, 1) := by decide +kernel
theorem dX9_shared_26 : decode cX9_shared 26 = .ok (.getfield 7, 3) := by decide +kernel
theorem dX9_shared_29 : decode cX9_shared 29 = .ok (.iload 6, 2) := by decide +kernel
theorem dX9_shared_31 : decode cX9_shared 31 = .ok (.iaload, 1) := by decide +kernel
theorem dX9_shared_32 : decode cX9_shared 32 = .ok (.goto 4, 3) := by decide +kernel
theorem dX9_shared_35 : decode cX9_shared 35 = .ok (.iload_n 3, 1) := by decide +kernel
theorem dX9_shared_36 : decode cX9_shared 36 = .ok (.istore 7, 2) := by decide +kernel
theorem dX9_shared_38 : decode cX9_shared 38 = .ok (.aload_n 0, 1) := by decide +kernel
theorem dX9_shared_39 : decode cX9_shared 39 = .ok (.getfield 7, 3) := by decide +kernel
theorem dX9_shared_42 : decode cX9_shared 42 = .ok (.iload 6, 2) := by decide +kernel
theorem dX9_shared_44 : decode cX9_shared 44 = .ok (.iconst 1, 1) := by decide +kernel
theorem dX9_shared_45 : decode cX9_shared 45 = .ok (.iadd, 1) := by decide +kernel
theorem dX9_shared_46 : decode cX9_shared 46 = .ok (.iaload, 1) := by decide +kernel
theorem dX9_shared_47 : decode cX9_shared 47 = .ok (.iload 4, 2) := by decide +kernel
theorem dX9_shared_49 : decode cX9_shared 49 = .ok (.if_icmp .ge 15, 3) := by decide +kernel
theorem dX9_shared_52 : decode cX9_shared 52 = .ok (.aload_n 0, 1) := by decide +kernel
theorem dX9_shared_53 : decode cX9_shared 53 = .ok (.getfield 7, 3) := by decide +kernel
theorem dX9_shared_56 : decode cX9_shared 56 = .ok (.iload 6, 2) := by decide +kernel
theorem dX9_shared_58 : decode cX9_shared 58 = .ok (.iconst 1, 1) := by decide +kernel
theorem dX9_shared_59 : decode cX9_shared 59 = .ok (.iadd, 1) := by decide +kernel
theorem dX9_shared_60 : decode cX9_shared 60 = .ok (.iaload, 1) := by decide +kernel
theorem dX9_shared_61 : decode cX9_shared 61 = .ok (.goto 5, 3) := by decide +kernel
theorem dX9_shared_64 : decode cX9_shared 64 = .ok (.iload 4, 2) := by decide +kernel
theorem dX9_shared_66 : decode cX9_shared 66 = .ok (.istore 8, 2) := by decide +kernel
theorem dX9_shared_68 : decode cX9_shared 68 = .ok (.aload_n 0, 1) := by decide +kernel
theorem dX9_shared_69 : decode cX9_shared 69 = .ok (.getfield 7, 3) := by decide +kernel
theorem dX9_shared_72 : decode cX9_shared 72 = .ok (.iload 6, 2) := by decide +kernel
theorem dX9_shared_74 : decode cX9_shared 74 = .ok (.iconst 2, 1) := by decide +kernel
theorem dX9_shared_75 : decode cX9_shared 75 = .ok (.iadd, 1) := by decide +kernel
theorem dX9_shared_76 : decode cX9_shared 76 = .ok (.iaload, 1) := by decide +kernel
theorem dX9_shared_77 : decode cX9_shared 77 = .ok (.iload 5, 2) := by decide +kernel
theorem dX9_shared_79 : decode cX9_shared 79 = .ok (.if_icmp .eq 36, 3) := by decide +kernel
theorem dX9_shared_82 : decode cX9_shared 82 = .ok (.aload_n 0, 1) := by decide +kernel
theorem dX9_shared_83 : decode cX9_shared 83 = .ok (.getfield 7, 3) := by decide +kernel
theorem dX9_shared_86 : decode cX9_shared 86 = .ok (.iconst 0, 1) := by decide +kernel
theorem dX9_shared_87 : decode cX9_shared 87 = .ok (.iaload, 1) := by decide +kernel
theorem dX9_shared_88 : decode cX9_shared 88 = .ok (.aload_n 0, 1) := by decide +kernel
theorem dX9_shared_89 : decode cX9_shared 89 = .ok (.getfield 7, 3) := by decide +kernel
theorem dX9_shared_92 : decode cX9_shared 92 = .ok (.iload 6, 2) := by decide +kernel
theorem dX9_shared_94 : decode cX9_shared 94 = .ok (.iconst 3, 1) := by decide +kernel
theorem dX9_shared_95 : decode cX9_shared 95 = .ok (.iadd, 1) := by decide +kernel
theorem dX9_shared_96 : decode cX9_shared 96 = .ok (.iaload, 1) := by decide +kernel
theorem dX9_shared_97 : decode cX9_shared 97 = .ok (.if_icmp .ge 18, 3) := by decide +kernel
theorem dX9_shared_100 : decode cX9_shared 100 = .ok (.iload 8, 2) := by decide +kernel
theorem dX9_shared_102 : decode cX9_shared 102 = .ok (.iload 7, 2) := by decide +kernel
theorem dX9_shared_104 : decode cX9_shared 104 = .ok (.if_icmp .le 11, 3) := by decide +kernel
theorem dX9_shared_107 : decode cX9_shared 107 = .ok (.iload 8, 2) := by decide +kernel
theorem dX9_shared_109 : decode cX9_shared 109 = .ok (.iload 7, 2) := by decide +kernel
theorem dX9_shared_111 : decode cX9_shared 111 = .ok (.isub, 1) := by decide +kernel
theorem dX9_shared_112 : decode cX9_shared 112 = .ok (.goto 4, 3) := by decide +kernel
theorem dX9_shared_115 : decode cX9_shared 115 = .ok (.iconst 0, 1) := by decide +kernel
theorem dX9_shared_116 : decode cX9_shared 116 = .ok (.ireturn, 1) := by decide +kernel
theorem dX9_lacks_0 : decode cX9_lacks 0 = .ok (.iconst 0, 1) := by decide +kernel
theorem dX9_lacks_1 : decode cX9_lacks 1 = .ok (.istore 6, 2) := by decide +kernel
theorem dX9_lacks_3 : decode cX9_lacks 3 = .ok (.iconst 0, 1) := by decide +kernel
theorem dX9_lacks_4 : decode cX9_lacks 4 = .ok (.istore 7, 2) := by decide +kernel
theorem dX9_lacks_6 : decode cX9_lacks 6 = .ok (.iload 7, 2) := by decide +kernel
theorem dX9_lacks_8 : decode cX9_lacks 8 = .ok (.aload_n 0, 1) := by decide +kernel
theorem dX9_lacks_9 : decode cX9_lacks 9 = .ok (.getfield 7, 3) := by decide +kernel
theorem dX9_lacks_12 : decode cX9_lacks 12 = .ok (.bipush 84, 2) := by decide +kernel
theorem dX9_lacks_14 : decode cX9_lacks 14 = .ok (.iconst 5, 1) := by decide +kernel
theorem dX9_lacks_15 : decode cX9_lacks 15 = .ok (.iload_n 2, 1) := by decide +kernel
theorem dX9_lacks_16 : decode cX9_lacks 16 = .ok (.imul, 1) := by decide +kernel
theorem dX9_lacks_17 : decode cX9_lacks 17 = .ok (.iadd, 1) := by decide +kernel
theorem dX9_lacks_18 : decode cX9_lacks 18 = .ok (.iconst 4, 1) := by decide +kernel
theorem dX9_lacks_19 : decode cX9_lacks 19 = .ok (.iadd, 1) := by decide +kernel
theorem dX9_lacks_20 : decode cX9_lacks 20 = .ok (.iaload, 1) := by decide +kernel
theorem dX9_lacks_21 : decode cX9_lacks 21 = .ok (.if_icmp .ge 70, 3) := by decide +kernel
theorem dX9_lacks_24 : decode cX9_lacks 24 = .ok (.aload_n 0, 1) := by decide +kernel
theorem dX9_lacks_25 : decode cX9_lacks 25 = .ok (.getfield 7, 3) := by decide +kernel
theorem dX9_lacks_28 : decode cX9_lacks 28 = .ok (.sipush 164, 3) := by decide +kernel
theorem dX9_lacks_31 : decode cX9_lacks 31 = .ok (.bipush 16, 2) := by decide +kernel
theorem dX9_lacks_33 : decode cX9_lacks 33 = .ok (.iload_n 2, 1) := by decide +kernel
theorem dX9_lacks_34 : decode cX9_lacks 34 = .ok (.imul, 1) := by decide +kernel
theorem dX9_lacks_35 : decode cX9_lacks 35 = .ok (.iadd, 1) := by decide +kernel
theorem dX9_lacks_36 : decode cX9_lacks 36 = .ok (.iconst 4, 1) := by decide +kernel
theorem dX9_lacks_37 : decode cX9_lacks 37 = .ok (.iload 7, 2) := by decide +kernel
theorem dX9_lacks_39 : decode cX9_lacks 39 = .ok (.imul, 1) := by decide +kernel
theorem dX9_lacks_40 : decode cX9_lacks 40 = .ok (.iadd, 1) := by decide +kernel
theorem dX9_lacks_41 : decode cX9_lacks 41 = .ok (.iconst 2, 1) := by decide +kernel
theorem dX9_lacks_42 : decode cX9_lacks 42 = .ok (.iadd, 1) := by decide +kernel
theorem dX9_lacks_43 : decode cX9_lacks 43 = .ok (.iaload, 1) := by decide +kernel
theorem dX9_lacks_44 : decode cX9_lacks 44 = .ok (.istore 8, 2) := by decide +kernel
theorem dX9_lacks_46 : decode cX9_lacks 46 = .ok (.iload 6, 2) := by decide +kernel
theorem dX9_lacks_48 : decode cX9_lacks 48 = .ok (.aload_n 0, 1) := by decide +kernel
theorem dX9_lacks_49 : decode cX9_lacks 49 = .ok (.iload_n 2, 1) := by decide +kernel
theorem dX9_lacks_50 : decode cX9_lacks 50 = .ok (.iload 7, 2) := by decide +kernel
theorem dX9_lacks_52 : decode cX9_lacks 52 = .ok (.iload_n 3, 1) := by decide +kernel
theorem dX9_lacks_53 : decode cX9_lacks 53 = .ok (.iload 4, 2) := by decide +kernel
theorem dX9_lacks_55 : decode cX9_lacks 55 = .ok (.iload_n 1, 1) := by decide +kernel
theorem dX9_lacks_56 : decode cX9_lacks 56 = .ok (.invokevirtual 123, 3) := by decide +kernel
theorem dX9_lacks_59 : decode cX9_lacks 59 = .ok (.ifCond .le 22, 3) := by decide +kernel
theorem dX9_lacks_62 : decode cX9_lacks 62 = .ok (.aload_n 0, 1) := by decide +kernel
theorem dX9_lacks_63 : decode cX9_lacks 63 = .ok (.iload 8, 2) := by decide +kernel
theorem dX9_lacks_65 : decode cX9_lacks 65 = .ok (.iload_n 1, 1) := by decide +kernel
theorem dX9_lacks_66 : decode cX9_lacks 66 = .ok (.iload 5, 2) := by decide +kernel
theorem dX9_lacks_68 : decode cX9_lacks 68 = .ok (.invokevirtual 126, 3) := by decide +kernel
theorem dX9_lacks_71 : decode cX9_lacks 71 = .ok (.ifCond .ne 10, 3) := by decide +kernel
theorem dX9_lacks_74 : decode cX9_lacks 74 = .ok (.iconst 1, 1) := by decide +kernel
theorem dX9_lacks_75 : decode cX9_lacks 75 = .ok (.iload 7, 2) := by decide +kernel
theorem dX9_lacks_77 : decode cX9_lacks 77 = .ok (.ishl, 1) := by decide +kernel
theorem dX9_lacks_78 : decode cX9_lacks 78 = .ok (.goto 4, 3) := by decide +kernel
theorem dX9_lacks_81 : decode cX9_lacks 81 = .ok (.iconst 0, 1) := by decide +kernel
theorem dX9_lacks_82 : decode cX9_lacks 82 = .ok (.ior, 1) := by decide +kernel
theorem dX9_lacks_83 : decode cX9_lacks 83 = .ok (.istore 6, 2) := by decide +kernel
theorem dX9_lacks_85 : decode cX9_lacks 85 = .ok (.iinc 7 1, 3) := by decide +kernel
theorem dX9_lacks_88 : decode cX9_lacks 88 = .ok (.goto (-82), 3) := by decide +kernel
theorem dX9_lacks_91 : decode cX9_lacks 91 = .ok (.iload 6, 2) := by decide +kernel
theorem dX9_lacks_93 : decode cX9_lacks 93 = .ok (.ireturn, 1) := by decide +kernel
theorem dX9_price_0 : decode cX9_price 0 = .ok (.iload_n 0, 1) := by decide +kernel
theorem dX9_price_1 : decode cX9_price 1 = .ok (.ifCond .ne 7, 3) := by decide +kernel
theorem dX9_price_4 : decode cX9_price 4 = .ok (.iconst 0, 1) := by decide +kernel
theorem dX9_price_5 : decode cX9_price 5 = .ok (.goto 13, 3) := by decide +kernel
theorem dX9_price_8 : decode cX9_price 8 = .ok (.iload_n 0, 1) := by decide +kernel
theorem dX9_price_9 : decode cX9_price 9 = .ok (.iconst 1, 1) := by decide +kernel
theorem dX9_price_10 : decode cX9_price 10 = .ok (.if_icmp .ne 7, 3) := by decide +kernel
theorem dX9_price_13 : decode cX9_price 13 = .ok (.iconst 1, 1) := by decide +kernel
theorem dX9_price_14 : decode cX9_price 14 = .ok (.goto 4, 3) := by decide +kernel
theorem dX9_price_17 : decode cX9_price 17 = .ok (.iconst 3, 1) := by decide +kernel
theorem dX9_price_18 : decode cX9_price 18 = .ok (.ireturn, 1) := by decide +kernel
theorem dX9_feeFor_0 : decode cX9_feeFor 0 = .ok (.iconst 0, 1) := by decide +kernel
theorem dX9_feeFor_1 : decode cX9_feeFor 1 = .ok (.istore 6, 2) := by decide +kernel
theorem dX9_feeFor_3 : decode cX9_feeFor 3 = .ok (.iconst 0, 1) := by decide +kernel
theorem dX9_feeFor_4 : decode cX9_feeFor 4 = .ok (.istore 7, 2) := by decide +kernel
theorem dX9_feeFor_6 : decode cX9_feeFor 6 = .ok (.iload 7, 2) := by decide +kernel
theorem dX9_feeFor_8 : decode cX9_feeFor 8 = .ok (.aload_n 0, 1) := by decide +kernel
theorem dX9_feeFor_9 : decode cX9_feeFor 9 = .ok (.getfield 7, 3) := by decide +kernel
theorem dX9_feeFor_12 : decode cX9_feeFor 12 = .ok (.bipush 84, 2) := by decide +kernel
theorem dX9_feeFor_14 : decode cX9_feeFor 14 = .ok (.iconst 5, 1) := by decide +kernel
theorem dX9_feeFor_15 : decode cX9_feeFor 15 = .ok (.iload_n 2, 1) := by decide +kernel
theorem dX9_feeFor_16 : decode cX9_feeFor 16 = .ok (.imul, 1) := by decide +kernel
theorem dX9_feeFor_17 : decode cX9_feeFor 17 = .ok (.iadd, 1) := by decide +kernel
theorem dX9_feeFor_18 : decode cX9_feeFor 18 = .ok (.iconst 4, 1) := by decide +kernel
theorem dX9_feeFor_19 : decode cX9_feeFor 19 = .ok (.iadd, 1) := by decide +kernel
theorem dX9_feeFor_20 : decode cX9_feeFor 20 = .ok (.iaload, 1) := by decide +kernel
theorem dX9_feeFor_21 : decode cX9_feeFor 21 = .ok (.if_icmp .ge 31, 3) := by decide +kernel
theorem dX9_feeFor_24 : decode cX9_feeFor 24 = .ok (.iload 6, 2) := by decide +kernel
theorem dX9_feeFor_26 : decode cX9_feeFor 26 = .ok (.aload_n 0, 1) := by decide +kernel
theorem dX9_feeFor_27 : decode cX9_feeFor 27 = .ok (.iload_n 2, 1) := by decide +kernel
theorem dX9_feeFor_28 : decode cX9_feeFor 28 = .ok (.iload 7, 2) := by decide +kernel
theorem dX9_feeFor_30 : decode cX9_feeFor 30 = .ok (.iload_n 3, 1) := by decide +kernel
theorem dX9_feeFor_31 : decode cX9_feeFor 31 = .ok (.iload 4, 2) := by decide +kernel
theorem dX9_feeFor_33 : decode cX9_feeFor 33 = .ok (.iload_n 1, 1) := by decide +kernel
theorem dX9_feeFor_34 : decode cX9_feeFor 34 = .ok (.invokevirtual 123, 3) := by decide +kernel
theorem dX9_feeFor_37 : decode cX9_feeFor 37 = .ok (.iload 5, 2) := by decide +kernel
theorem dX9_feeFor_39 : decode cX9_feeFor 39 = .ok (.invokestatic 129, 3) := by decide +kernel
theorem dX9_feeFor_42 : decode cX9_feeFor 42 = .ok (.imul, 1) := by decide +kernel
theorem dX9_feeFor_43 : decode cX9_feeFor 43 = .ok (.iadd, 1) := by decide +kernel
theorem dX9_feeFor_44 : decode cX9_feeFor 44 = .ok (.istore 6, 2) := by decide +kernel
theorem dX9_feeFor_46 : decode cX9_feeFor 46 = .ok (.iinc 7 1, 3) := by decide +kernel
theorem dX9_feeFor_49 : decode cX9_feeFor 49 = .ok (.goto (-43), 3) := by decide +kernel
theorem dX9_feeFor_52 : decode cX9_feeFor 52 = .ok (.iload 6, 2) := by decide +kernel
theorem dX9_feeFor_54 : decode cX9_feeFor 54 = .ok (.ireturn, 1) := by decide +kernel
theorem dX9_request_0 : decode cX9_request 0 = .ok (.aload_n 0, 1) := by decide +kernel
theorem dX9_request_1 : decode cX9_request 1 = .ok (.iconst 3, 1) := by decide +kernel
theorem dX9_request_2 : decode cX9_request 2 = .ok (.iload_n 2, 1) := by decide +kernel
theorem dX9_request_3 : decode cX9_request 3 = .ok (.invokevirtual 64, 3) := by decide +kernel
theorem dX9_request_6 : decode cX9_request 6 = .ok (.ifCond .ne 5, 3) := by decide +kernel
theorem dX9_request_9 : decode cX9_request 9 = .ok (.iconst (-1), 1) := by decide +kernel
theorem dX9_request_10 : decode cX9_request 10 = .ok (.ireturn, 1) := by decide +kernel
theorem dX9_request_11 : decode cX9_request 11 = .ok (.iload_n 1, 1) := by decide +kernel
theorem dX9_request_12 : decode cX9_request 12 = .ok (.iconst 0, 1) := by decide +kernel
theorem dX9_request_13 : decode cX9_request 13 = .ok (.bipush 7, 2) := by decide +kernel
theorem dX9_request_15 : decode cX9_request 15 = .ok (.invokestatic 42, 3) := by decide +kernel
theorem dX9_request_18 : decode cX9_request 18 = .ok (.ifCond .eq 35, 3) := by decide +kernel
theorem dX9_request_21 : decode cX9_request 21 = .ok (.aload_n 0, 1) := by decide +kernel
theorem dX9_request_22 : decode cX9_request 22 = .ok (.iload_n 2, 1) := by decide +kernel
theorem dX9_request_23 : decode cX9_request 23 = .ok (.iload_n 3, 1) := by decide +kernel
theorem dX9_request_24 : decode cX9_request 24 = .ok (.iload 4, 2) := by decide +kernel
theorem dX9_request_26 : decode cX9_request 26 = .ok (.invokevirtual 70, 3) := by decide +kernel
theorem dX9_request_29 : decode cX9_request 29 = .ok (.ifCond .eq 24, 3) := by decide +kernel
theorem dX9_request_32 : decode cX9_request 32 = .ok (.iload 5, 2) := by decide +kernel
theorem dX9_request_34 : decode cX9_request 34 = .ok (.iconst 0, 1) := by decide +kernel
theorem dX9_request_35 : decode cX9_request 35 = .ok (.iconst 2, 1) := by decide +kernel
theorem dX9_request_36 : decode cX9_request 36 = .ok (.invokestatic 42, 3) := by decide +kernel
theorem dX9_request_39 : decode cX9_request 39 = .ok (.ifCond .eq 14, 3) := by decide +kernel
theorem dX9_request_42 : decode cX9_request 42 = .ok (.iload 6, 2) := by decide +kernel
theorem dX9_request_44 : decode cX9_request 44 = .ok (.iconst 1, 1) := by decide +kernel
theorem dX9_request_45 : decode cX9_request 45 = .ok (.bipush 100, 2) := by decide +kernel
theorem dX9_request_47 : decode cX9_request 47 = .ok (.invokestatic 42, 3) := by decide +kernel
theorem dX9_request_50 : decode cX9_request 50 = .ok (.ifCond .ne 6, 3) := by decide +kernel
theorem dX9_request_53 : decode cX9_request 53 = .ok (.bipush (-2), 2) := by decide +kernel
theorem dX9_request_55 : decode cX9_request 55 = .ok (.ireturn, 1) := by decide +kernel
theorem dX9_request_56 : decode cX9_request 56 = .ok (.aload_n 0, 1) := by decide +kernel
theorem dX9_request_57 : decode cX9_request 57 = .ok (.getfield 7, 3) := by decide +kernel
theorem dX9_request_60 : decode cX9_request 60 = .ok (.bipush 6, 2) := by decide +kernel
theorem dX9_request_62 : decode cX9_request 62 = .ok (.iaload, 1) := by decide +kernel
theorem dX9_request_63 : decode cX9_request 63 = .ok (.bipush 16, 2) := by decide +kernel
theorem dX9_request_65 : decode cX9_request 65 = .ok (.if_icmp .ne 6, 3) := by decide +kernel
theorem dX9_request_68 : decode cX9_request 68 = .ok (.bipush (-4), 2) := by decide +kernel
theorem dX9_request_70 : decode cX9_request 70 = .ok (.ireturn, 1) := by decide +kernel
theorem dX9_request_71 : decode cX9_request 71 = .ok (.aload_n 0, 1) := by decide +kernel
theorem dX9_request_72 : decode cX9_request 72 = .ok (.invokevirtual 54, 3) := by decide +kernel
theorem dX9_request_75 : decode cX9_request 75 = .ok (.sipush 756, 3) := by decide +kernel
theorem dX9_request_78 : decode cX9_request 78 = .ok (.bipush 10, 2) := by decide +kernel
theorem dX9_request_80 : decode cX9_request 80 = .ok (.aload_n 0, 1) := by decide +kernel
theorem dX9_request_81 : decode cX9_request 81 = .ok (.getfield 7, 3) := by decide +kernel
theorem dX9_request_84 : decode cX9_request 84 = .ok (.bipush 6, 2) := by decide +kernel
theorem dX9_request_86 : decode cX9_request 86 = .ok (.iaload, 1) := by decide +kernel
theorem dX9_request_87 : decode cX9_request 87 = .ok (.imul, 1) := by decide +kernel
theorem dX9_request_88 : decode cX9_request 88 = .ok (.iadd, 1) := by decide +kernel
theorem dX9_request_89 : decode cX9_request 89 = .ok (.istore 7, 2) := by decide +kernel
theorem dX9_request_91 : decode cX9_request 91 = .ok (.aload_n 0, 1) := by decide +kernel
theorem dX9_request_92 : decode cX9_request 92 = .ok (.getfield 7, 3) := by decide +kernel
theorem dX9_request_95 : decode cX9_request 95 = .ok (.iload 7, 2) := by decide +kernel
theorem dX9_request_97 : decode cX9_request 97 = .ok (.iconst 0, 1) := by decide +kernel
theorem dX9_request_98 : decode cX9_request 98 = .ok (.iastore, 1) := by decide +kernel
theorem dX9_request_99 : decode cX9_request 99 = .ok (.aload_n 0, 1) := by decide +kernel
theorem dX9_request_100 : decode cX9_request 100 = .ok (.getfield 7, 3) := by decide +kernel
theorem dX9_request_103 : decode cX9_request 103 = .ok (.iload 7, 2) := by decide +kernel
theorem dX9_request_105 : decode cX9_request 105 = .ok (.iconst 1, 1) := by decide +kernel
theorem dX9_request_106 : decode cX9_request 106 = .ok (.iadd, 1) := by decide +kernel
theorem dX9_request_107 : decode cX9_request 107 = .ok (.iload_n 1, 1) := by decide +kernel
theorem dX9_request_108 : decode cX9_request 108 = .ok (.iastore, 1) := by decide +kernel
theorem dX9_request_109 : decode cX9_request 109 = .ok (.aload_n 0, 1) := by decide +kernel
theorem dX9_request_110 : decode cX9_request 110 = .ok (.getfield 7, 3) := by decide +kernel
theorem dX9_request_113 : decode cX9_request 113 = .ok (.iload 7, 2) := by decide +kernel
theorem dX9_request_115 : decode cX9_request 115 = .ok (.iconst 2, 1) := by decide +kernel
theorem dX9_request_116 : decode cX9_request 116 = .ok (.iadd, 1) := by decide +kernel
theorem dX9_request_117 : decode cX9_request 117 = .ok (.iload_n 2, 1) := by decide +kernel
theorem dX9_request_118 : decode cX9_request 118 = .ok (.iastore, 1) := by decide +kernel
theorem dX9_request_119 : decode cX9_request 119 = .ok (.aload_n 0, 1) := by decide +kernel
theorem dX9_request_120 : decode cX9_request 120 = .ok (.getfield 7, 3) := by decide +kernel
theorem dX9_request_123 : decode cX9_request 123 = .ok (.iload 7, 2) := by decide +kernel
theorem dX9_request_125 : decode cX9_request 125 = .ok (.iconst 3, 1) := by decide +kernel
theorem dX9_request_126 : decode cX9_request 126 = .ok (.iadd, 1) := by decide +kernel
theorem dX9_request_127 : decode cX9_request 127 = .ok (.iload_n 3, 1) := by decide +kernel
theorem dX9_request_128 : decode cX9_request 128 = .ok (.iastore, 1) := by decide +kernel
theorem dX9_request_129 : decode cX9_request 129 = .ok (.aload_n 0, 1) := by decide +kernel
theorem dX9_request_130 : decode cX9_request 130 = .ok (.getfield 7, 3) := by decide +kernel
theorem dX9_request_133 : decode cX9_request 133 = .ok (.iload 7, 2) := by decide +kernel
theorem dX9_request_135 : decode cX9_request 135 = .ok (.iconst 4, 1) := by decide +kernel
theorem dX9_request_136 : decode cX9_request 136 = .ok (.iadd, 1) := by decide +kernel
theorem dX9_request_137 : decode cX9_request 137 = .ok (.iload 4, 2) := by decide +kernel
theorem dX9_request_139 : decode cX9_request 139 = .ok (.iastore, 1) := by decide +kernel
theorem dX9_request_140 : decode cX9_request 140 = .ok (.aload_n 0, 1) := by decide +kernel
theorem dX9_request_141 : decode cX9_request 141 = .ok (.getfield 7, 3) := by decide +kernel
theorem dX9_request_144 : decode cX9_request 144 = .ok (.iload 7, 2) := by decide +kernel
theorem dX9_request_146 : decode cX9_request 146 = .ok (.iconst 5, 1) := by decide +kernel
theorem dX9_request_147 : decode cX9_request 147 = .ok (.iadd, 1) := by decide +kernel
theorem dX9_request_148 : decode cX9_request 148 = .ok (.iload 5, 2) := by decide +kernel
theorem dX9_request_150 : decode cX9_request 150 = .ok (.iastore, 1) := by decide +kernel
theorem dX9_request_151 : decode cX9_request 151 = .ok (.aload_n 0, 1) := by decide +kernel
theorem dX9_request_152 : decode cX9_request 152 = .ok (.getfield 7, 3) := by decide +kernel
theorem dX9_request_155 : decode cX9_request 155 = .ok (.iload 7, 2) := by decide +kernel
theorem dX9_request_157 : decode cX9_request 157 = .ok (.bipush 6, 2) := by decide +kernel
theorem dX9_request_159 : decode cX9_request 159 = .ok (.iadd, 1) := by decide +kernel
theorem dX9_request_160 : decode cX9_request 160 = .ok (.iload 6, 2) := by decide +kernel
theorem dX9_request_162 : decode cX9_request 162 = .ok (.iastore, 1) := by decide +kernel
theorem dX9_request_163 : decode cX9_request 163 = .ok (.aload_n 0, 1) := by decide +kernel
theorem dX9_request_164 : decode cX9_request 164 = .ok (.getfield 7, 3) := by decide +kernel
theorem dX9_request_167 : decode cX9_request 167 = .ok (.iload 7, 2) := by decide +kernel
theorem dX9_request_169 : decode cX9_request 169 = .ok (.bipush 7, 2) := by decide +kernel
theorem dX9_request_171 : decode cX9_request 171 = .ok (.iadd, 1) := by decide +kernel
theorem dX9_request_172 : decode cX9_request 172 = .ok (.aload_n 0, 1) := by decide +kernel
theorem dX9_request_173 : decode cX9_request 173 = .ok (.getfield 7, 3) := by decide +kernel
theorem dX9_request_176 : decode cX9_request 176 = .ok (.iconst 0, 1) := by decide +kernel
theorem dX9_request_177 : decode cX9_request 177 = .ok (.iaload, 1) := by decide +kernel
theorem dX9_request_178 : decode cX9_request 178 = .ok (.bipush 30, 2) := by decide +kernel
theorem dX9_request_180 : decode cX9_request 180 = .ok (.iadd, 1) := by decide +kernel
theorem dX9_request_181 : decode cX9_request 181 = .ok (.sipush 9999, 3) := by decide +kernel
theorem dX9_request_184 : decode cX9_request 184 = .ok (.if_icmp .le 9, 3) := by decide +kernel
theorem dX9_request_187 : decode cX9_request 187 = .ok (.sipush 9999, 3) := by decide +kernel
theorem dX9_request_190 : decode cX9_request 190 = .ok (.goto 12, 3) := by decide +kernel
theorem dX9_request_193 : decode cX9_request 193 = .ok (.aload_n 0, 1) := by decide +kernel
theorem dX9_request_194 : decode cX9_request 194 = .ok (.getfield 7, 3) := by decide +kernel
theorem dX9_request_197 : decode cX9_request 197 = .ok (.iconst 0, 1) := by decide +kernel
theorem dX9_request_198 : decode cX9_request 198 = .ok (.iaload, 1) := by decide +kernel
theorem dX9_request_199 : decode cX9_request 199 = .ok (.bipush 30, 2) := by decide +kernel
theorem dX9_request_201 : decode cX9_request 201 = .ok (.iadd, 1) := by decide +kernel
theorem dX9_request_202 : decode cX9_request 202 = .ok (.iastore, 1) := by decide +kernel
theorem dX9_request_203 : decode cX9_request 203 = .ok (.aload_n 0, 1) := by decide +kernel
theorem dX9_request_204 : decode cX9_request 204 = .ok (.getfield 7, 3) := by decide +kernel
theorem dX9_request_207 : decode cX9_request 207 = .ok (.iload 7, 2) := by decide +kernel
theorem dX9_request_209 : decode cX9_request 209 = .ok (.bipush 8, 2) := by decide +kernel
theorem dX9_request_211 : decode cX9_request 211 = .ok (.iadd, 1) := by decide +kernel
theorem dX9_request_212 : decode cX9_request 212 = .ok (.bipush (-6), 2) := by decide +kernel
theorem dX9_request_214 : decode cX9_request 214 = .ok (.iastore, 1) := by decide +kernel
theorem dX9_request_215 : decode cX9_request 215 = .ok (.aload_n 0, 1) := by decide +kernel
theorem dX9_request_216 : decode cX9_request 216 = .ok (.getfield 7, 3) := by decide +kernel
theorem dX9_request_219 : decode cX9_request 219 = .ok (.iload 7, 2) := by decide +kernel
theorem dX9_request_221 : decode cX9_request 221 = .ok (.bipush 9, 2) := by decide +kernel
theorem dX9_request_223 : decode cX9_request 223 = .ok (.iadd, 1) := by decide +kernel
theorem dX9_request_224 : decode cX9_request 224 = .ok (.iconst 0, 1) := by decide +kernel
theorem dX9_request_225 : decode cX9_request 225 = .ok (.iastore, 1) := by decide +kernel
theorem dX9_request_226 : decode cX9_request 226 = .ok (.aload_n 0, 1) := by decide +kernel
theorem dX9_request_227 : decode cX9_request 227 = .ok (.getfield 7, 3) := by decide +kernel
theorem dX9_request_230 : decode cX9_request 230 = .ok (.bipush 6, 2) := by decide +kernel
theorem dX9_request_232 : decode cX9_request 232 = .ok (.dup2, 1) := by decide +kernel
theorem dX9_request_233 : decode cX9_request 233 = .ok (.iaload, 1) := by decide +kernel
theorem dX9_request_234 : decode cX9_request 234 = .ok (.iconst 1, 1) := by decide +kernel
theorem dX9_request_235 : decode cX9_request 235 = .ok (.iadd, 1) := by decide +kernel
theorem dX9_request_236 : decode cX9_request 236 = .ok (.iastore, 1) := by decide +kernel
theorem dX9_request_237 : decode cX9_request 237 = .ok (.aload_n 0, 1) := by decide +kernel
theorem dX9_request_238 : decode cX9_request 238 = .ok (.getfield 7, 3) := by decide +kernel
theorem dX9_request_241 : decode cX9_request 241 = .ok (.bipush 6, 2) := by decide +kernel
theorem dX9_request_243 : decode cX9_request 243 = .ok (.iaload, 1) := by decide +kernel
theorem dX9_request_244 : decode cX9_request 244 = .ok (.iconst 1, 1) := by decide +kernel
theorem dX9_request_245 : decode cX9_request 245 = .ok (.isub, 1) := by decide +kernel
theorem dX9_request_246 : decode cX9_request 246 = .ok (.ireturn, 1) := by decide +kernel
theorem dX9_isOpen_0 : decode cX9_isOpen 0 = .ok (.aload_n 0, 1) := by decide +kernel
theorem dX9_isOpen_1 : decode cX9_isOpen 1 = .ok (.getfield 7, 3) := by decide +kernel
theorem dX9_isOpen_4 : decode cX9_isOpen 4 = .ok (.sipush 756, 3) := by decide +kernel
theorem dX9_isOpen_7 : decode cX9_isOpen 7 = .ok (.bipush 10, 2) := by decide +kernel
theorem dX9_isOpen_9 : decode cX9_isOpen 9 = .ok (.iload_n 1, 1) := by decide +kernel
theorem dX9_isOpen_10 : decode cX9_isOpen 10 = .ok (.imul, 1) := by decide +kernel
theorem dX9_isOpen_11 : decode cX9_isOpen 11 = .ok (.iadd, 1) := by decide +kernel
theorem dX9_isOpen_12 : decode cX9_isOpen 12 = .ok (.iaload, 1) := by decide +kernel
theorem dX9_isOpen_13 : decode cX9_isOpen 13 = .ok (.ifCond .ne 7, 3) := by decide +kernel
theorem dX9_isOpen_16 : decode cX9_isOpen 16 = .ok (.iconst 1, 1) := by decide +kernel
theorem dX9_isOpen_17 : decode cX9_isOpen 17 = .ok (.goto 4, 3) := by decide +kernel
theorem dX9_isOpen_20 : decode cX9_isOpen 20 = .ok (.iconst 0, 1) := by decide +kernel
theorem dX9_isOpen_21 : decode cX9_isOpen 21 = .ok (.ireturn, 1) := by decide +kernel
theorem dX9_inState_0 : decode cX9_inState 0 = .ok (.iconst 0, 1) := by decide +kernel
theorem dX9_inState_1 : decode cX9_inState 1 = .ok (.istore_n 2, 1) := by decide +kernel
theorem dX9_inState_2 : decode cX9_inState 2 = .ok (.iconst 0, 1) := by decide +kernel
theorem dX9_inState_3 : decode cX9_inState 3 = .ok (.istore_n 3, 1) := by decide +kernel
theorem dX9_inState_4 : decode cX9_inState 4 = .ok (.iload_n 3, 1) := by decide +kernel
theorem dX9_inState_5 : decode cX9_inState 5 = .ok (.aload_n 0, 1) := by decide +kernel
theorem dX9_inState_6 : decode cX9_inState 6 = .ok (.getfield 7, 3) := by decide +kernel
theorem dX9_inState_9 : decode cX9_inState 9 = .ok (.bipush 6, 2) := by decide +kernel
theorem dX9_inState_11 : decode cX9_inState 11 = .ok (.iaload, 1) := by decide +kernel
theorem dX9_inState_12 : decode cX9_inState 12 = .ok (.if_icmp .ge 34, 3) := by decide +kernel
theorem dX9_inState_15 : decode cX9_inState 15 = .ok (.iload_n 2, 1) := by decide +kernel
theorem dX9_inState_16 : decode cX9_inState 16 = .ok (.aload_n 0, 1) := by decide +kernel
theorem dX9_inState_17 : decode cX9_inState 17 = .ok (.getfield 7, 3) := by decide +kernel
theorem dX9_inState_20 : decode cX9_inState 20 = .ok (.sipush 756, 3) := by decide +kernel
theorem dX9_inState_23 : decode cX9_inState 23 = .ok (.bipush 10, 2) := by decide +kernel
theorem dX9_inState_25 : decode cX9_inState 25 = .ok (.iload_n 3, 1) := by decide +kernel
theorem dX9_inState_26 : decode cX9_inState 26 = .ok (.imul, 1) := by decide +kernel
theorem dX9_inState_27 : decode cX9_inState 27 = .ok (.iadd, 1) := by decide +kernel
theorem dX9_inState_28 : decode cX9_inState 28 = .ok (.iaload, 1) := by decide +kernel
theorem dX9_inState_29 : decode cX9_inState 29 = .ok (.iload_n 1, 1) := by decide +kernel
theorem dX9_inState_30 : decode cX9_inState 30 = .ok (.if_icmp .ne 7, 3) := by decide +kernel
theorem dX9_inState_33 : decode cX9_inState 33 = .ok (.iconst 1, 1) := by decide +kernel
theorem dX9_inState_34 : decode cX9_inState 34 = .ok (.goto 4, 3) := by decide +kernel
theorem dX9_inState_37 : decode cX9_inState 37 = .ok (.iconst 0, 1) := by decide +kernel
theorem dX9_inState_38 : decode cX9_inState 38 = .ok (.iadd, 1) := by decide +kernel
theorem dX9_inState_39 : decode cX9_inState 39 = .ok (.istore_n 2, 1) := by decide +kernel
theorem dX9_inState_40 : decode cX9_inState 40 = .ok (.iinc 3 1, 3) := by decide +kernel
theorem dX9_inState_43 : decode cX9_inState 43 = .ok (.goto (-39), 3) := by decide +kernel
theorem dX9_inState_46 : decode cX9_inState 46 = .ok (.iload_n 2, 1) := by decide +kernel
theorem dX9_inState_47 : decode cX9_inState 47 = .ok (.ireturn, 1) := by decide +kernel
theorem dX9_setDue_0 : decode cX9_setDue 0 = .ok (.aload_n 0, 1) := by decide +kernel
theorem dX9_setDue_1 : decode cX9_setDue 1 = .ok (.bipush 6, 2) := by decide +kernel
theorem dX9_setDue_3 : decode cX9_setDue 3 = .ok (.iload_n 1, 1) := by decide +kernel
theorem dX9_setDue_4 : decode cX9_setDue 4 = .ok (.invokevirtual 64, 3) := by decide +kernel
theorem dX9_setDue_7 : decode cX9_setDue 7 = .ok (.ifCond .ne 5, 3) := by decide +kernel
theorem dX9_setDue_10 : decode cX9_setDue 10 = .ok (.iconst (-1), 1) := by decide +kernel
theorem dX9_setDue_11 : decode cX9_setDue 11 = .ok (.ireturn, 1) := by decide +kernel
theorem dX9_setDue_12 : decode cX9_setDue 12 = .ok (.iload_n 2, 1) := by decide +kernel
theorem dX9_setDue_13 : decode cX9_setDue 13 = .ok (.aload_n 0, 1) := by decide +kernel
theorem dX9_setDue_14 : decode cX9_setDue 14 = .ok (.getfield 7, 3) := by decide +kernel
theorem dX9_setDue_17 : decode cX9_setDue 17 = .ok (.iconst 0, 1) := by decide +kernel
theorem dX9_setDue_18 : decode cX9_setDue 18 = .ok (.iaload, 1) := by decide +kernel
theorem dX9_setDue_19 : decode cX9_setDue 19 = .ok (.sipush 9999, 3) := by decide +kernel
theorem dX9_setDue_22 : decode cX9_setDue 22 = .ok (.invokestatic 42, 3) := by decide +kernel
theorem dX9_setDue_25 : decode cX9_setDue 25 = .ok (.ifCond .ne 6, 3) := by decide +kernel
theorem dX9_setDue_28 : decode cX9_setDue 28 = .ok (.bipush (-2), 2) := by decide +kernel
theorem dX9_setDue_30 : decode cX9_setDue 30 = .ok (.ireturn, 1) := by decide +kernel
theorem dX9_setDue_31 : decode cX9_setDue 31 = .ok (.aload_n 0, 1) := by decide +kernel
theorem dX9_setDue_32 : decode cX9_setDue 32 = .ok (.iload_n 1, 1) := by decide +kernel
theorem dX9_setDue_33 : decode cX9_setDue 33 = .ok (.invokevirtual 132, 3) := by decide +kernel
theorem dX9_setDue_36 : decode cX9_setDue 36 = .ok (.ifCond .ne 6, 3) := by decide +kernel
theorem dX9_setDue_39 : decode cX9_setDue 39 = .ok (.bipush (-3), 2) := by decide +kernel
theorem dX9_setDue_41 : decode cX9_setDue 41 = .ok (.ireturn, 1) := by decide +kernel
theorem dX9_setDue_42 : decode cX9_setDue 42 = .ok (.aload_n 0, 1) := by decide +kernel
theorem dX9_setDue_43 : decode cX9_setDue 43 = .ok (.invokevirtual 54, 3) := by decide +kernel
theorem dX9_setDue_46 : decode cX9_setDue 46 = .ok (.aload_n 0, 1) := by decide +kernel
theorem dX9_setDue_47 : decode cX9_setDue 47 = .ok (.getfield 7, 3) := by decide +kernel
theorem dX9_setDue_50 : decode cX9_setDue 50 = .ok (.sipush 756, 3) := by decide +kernel
theorem dX9_setDue_53 : decode cX9_setDue 53 = .ok (.bipush 10, 2) := by decide +kernel
theorem dX9_setDue_55 : decode cX9_setDue 55 = .ok (.iload_n 1, 1) := by decide +kernel
theorem dX9_setDue_56 : decode cX9_setDue 56 = .ok (.imul, 1) := by decide +kernel
theorem dX9_setDue_57 : decode cX9_setDue 57 = .ok (.iadd, 1) := by decide +kernel
theorem dX9_setDue_58 : decode cX9_setDue 58 = .ok (.bipush 7, 2) := by decide +kernel
theorem dX9_setDue_60 : decode cX9_setDue 60 = .ok (.iadd, 1) := by decide +kernel
theorem dX9_setDue_61 : decode cX9_setDue 61 = .ok (.iaload, 1) := by decide +kernel
theorem dX9_setDue_62 : decode cX9_setDue 62 = .ok (.istore_n 3, 1) := by decide +kernel
theorem dX9_setDue_63 : decode cX9_setDue 63 = .ok (.aload_n 0, 1) := by decide +kernel
theorem dX9_setDue_64 : decode cX9_setDue 64 = .ok (.getfield 7, 3) := by decide +kernel
theorem dX9_setDue_67 : decode cX9_setDue 67 = .ok (.sipush 756, 3) := by decide +kernel
theorem dX9_setDue_70 : decode cX9_setDue 70 = .ok (.bipush 10, 2) := by decide +kernel
theorem dX9_setDue_72 : decode cX9_setDue 72 = .ok (.iload_n 1, 1) := by decide +kernel
theorem dX9_setDue_73 : decode cX9_setDue 73 = .ok (.imul, 1) := by decide +kernel
theorem dX9_setDue_74 : decode cX9_setDue 74 = .ok (.iadd, 1) := by decide +kernel
theorem dX9_setDue_75 : decode cX9_setDue 75 = .ok (.bipush 7, 2) := by decide +kernel
theorem dX9_setDue_77 : decode cX9_setDue 77 = .ok (.iadd, 1) := by decide +kernel
theorem dX9_setDue_78 : decode cX9_setDue 78 = .ok (.iload_n 2, 1) := by decide +kernel
theorem dX9_setDue_79 : decode cX9_setDue 79 = .ok (.iastore, 1) := by decide +kernel
theorem dX9_setDue_80 : decode cX9_setDue 80 = .ok (.iload_n 3, 1) := by decide +kernel
theorem dX9_setDue_81 : decode cX9_setDue 81 = .ok (.ireturn, 1) := by decide +kernel
theorem dX9_withdraw_0 : decode cX9_withdraw 0 = .ok (.aload_n 0, 1) := by decide +kernel
theorem dX9_withdraw_1 : decode cX9_withdraw 1 = .ok (.bipush 6, 2) := by decide +kernel
theorem dX9_withdraw_3 : decode cX9_withdraw 3 = .ok (.iload_n 1, 1) := by decide +kernel
theorem dX9_withdraw_4 : decode cX9_withdraw 4 = .ok (.invokevirtual 64, 3) := by decide +kernel
theorem dX9_withdraw_7 : decode cX9_withdraw 7 = .ok (.ifCond .ne 5, 3) := by decide +kernel
theorem dX9_withdraw_10 : decode cX9_withdraw 10 = .ok (.iconst (-1), 1) := by decide +kernel
theorem dX9_withdraw_11 : decode cX9_withdraw 11 = .ok (.ireturn, 1) := by decide +kernel
theorem dX9_withdraw_12 : decode cX9_withdraw 12 = .ok (.aload_n 0, 1) := by decide +kernel
theorem dX9_withdraw_13 : decode cX9_withdraw 13 = .ok (.iload_n 1, 1) := by decide +kernel
theorem dX9_withdraw_14 : decode cX9_withdraw 14 = .ok (.invokevirtual 132, 3) := by decide +kernel
theorem dX9_withdraw_17 : decode cX9_withdraw 17 = .ok (.ifCond .ne 6, 3) := by decide +kernel
theorem dX9_withdraw_20 : decode cX9_withdraw 20 = .ok (.bipush (-3), 2) := by decide +kernel
theorem dX9_withdraw_22 : decode cX9_withdraw 22 = .ok (.ireturn, 1) := by decide +kernel
theorem dX9_withdraw_23 : decode cX9_withdraw 23 = .ok (.aload_n 0, 1) := by decide +kernel
theorem dX9_withdraw_24 : decode cX9_withdraw 24 = .ok (.invokevirtual 54, 3) := by decide +kernel
theorem dX9_withdraw_27 : decode cX9_withdraw 27 = .ok (.aload_n 0, 1) := by decide +kernel
theorem dX9_withdraw_28 : decode cX9_withdraw 28 = .ok (.getfield 7, 3) := by decide +kernel
theorem dX9_withdraw_31 : decode cX9_withdraw 31 = .ok (.sipush 756, 3) := by decide +kernel
theorem dX9_withdraw_34 : decode cX9_withdraw 34 = .ok (.bipush 10, 2) := by decide +kernel
theorem dX9_withdraw_36 : decode cX9_withdraw 36 = .ok (.iload_n 1, 1) := by decide +kernel
theorem dX9_withdraw_37 : decode cX9_withdraw 37 = .ok (.imul, 1) := by decide +kernel
theorem dX9_withdraw_38 : decode cX9_withdraw 38 = .ok (.iadd, 1) := by decide +kernel
theorem dX9_withdraw_39 : decode cX9_withdraw 39 = .ok (.iconst 3, 1) := by decide +kernel
theorem dX9_withdraw_40 : decode cX9_withdraw 40 = .ok (.iastore, 1) := by decide +kernel
theorem dX9_withdraw_41 : decode cX9_withdraw 41 = .ok (.aload_n 0, 1) := by decide +kernel
theorem dX9_withdraw_42 : decode cX9_withdraw 42 = .ok (.iconst 0, 1) := by decide +kernel
theorem dX9_withdraw_43 : decode cX9_withdraw 43 = .ok (.invokevirtual 136, 3) := by decide +kernel
theorem dX9_withdraw_46 : decode cX9_withdraw 46 = .ok (.ireturn, 1) := by decide +kernel
theorem dX9_reasonAgainstAnswer_0 : decode cX9_reasonAgainstAnswer 0 = .ok (.sipush 756, 3) := by decide +kernel
theorem dX9_reasonAgainstAnswer_3 : decode cX9_reasonAgainstAnswer 3 = .ok (.bipush 10, 2) := by decide +kernel
theorem dX9_reasonAgainstAnswer_5 : decode cX9_reasonAgainstAnswer 5 = .ok (.iload_n 1, 1) := by decide +kernel
theorem dX9_reasonAgainstAnswer_6 : decode cX9_reasonAgainstAnswer 6 = .ok (.imul, 1) := by decide +kernel
theorem dX9_reasonAgainstAnswer_7 : decode cX9_reasonAgainstAnswer 7 = .ok (.iadd, 1) := by decide +kernel
theorem dX9_reasonAgainstAnswer_8 : decode cX9_reasonAgainstAnswer 8 = .ok (.istore_n 3, 1) := by decide +kernel
theorem dX9_reasonAgainstAnswer_9 : decode cX9_reasonAgainstAnswer 9 = .ok (.aload_n 0, 1) := by decide +kernel
theorem dX9_reasonAgainstAnswer_10 : decode cX9_reasonAgainstAnswer 10 = .ok (.iload_n 1, 1) := by decide +kernel
theorem dX9_reasonAgainstAnswer_11 : decode cX9_reasonAgainstAnswer 11 = .ok (.invokevirtual 132, 3) := by decide +kernel
theorem dX9_reasonAgainstAnswer_14 : decode cX9_reasonAgainstAnswer 14 = .ok (.ifCond .ne 6, 3) := by decide +kernel
theorem dX9_reasonAgainstAnswer_17 : decode cX9_reasonAgainstAnswer 17 = .ok (.bipush 6, 2) := by decide +kernel
theorem dX9_reasonAgainstAnswer_19 : decode cX9_reasonAgainstAnswer 19 = .ok (.ireturn, 1) := by decide +kernel
theorem dX9_reasonAgainstAnswer_20 : decode cX9_reasonAgainstAnswer 20 = .ok (.iload_n 2, 1) := by decide +kernel
theorem dX9_reasonAgainstAnswer_21 : decode cX9_reasonAgainstAnswer 21 = .ok (.ifCond .ge 6, 3) := by decide +kernel
theorem dX9_reasonAgainstAnswer_24 : decode cX9_reasonAgainstAnswer 24 = .ok (.bipush 7, 2) := by decide +kernel
theorem dX9_reasonAgainstAnswer_26 : decode cX9_reasonAgainstAnswer 26 = .ok (.ireturn, 1) := by decide +kernel
theorem dX9_reasonAgainstAnswer_27 : decode cX9_reasonAgainstAnswer 27 = .ok (.aload_n 0, 1) := by decide +kernel
theorem dX9_reasonAgainstAnswer_28 : decode cX9_reasonAgainstAnswer 28 = .ok (.iload_n 2, 1) := by decide +kernel
theorem dX9_reasonAgainstAnswer_29 : decode cX9_reasonAgainstAnswer 29 = .ok (.aload_n 0, 1) := by decide +kernel
theorem dX9_reasonAgainstAnswer_30 : decode cX9_reasonAgainstAnswer 30 = .ok (.getfield 7, 3) := by decide +kernel
theorem dX9_reasonAgainstAnswer_33 : decode cX9_reasonAgainstAnswer 33 = .ok (.iload_n 3, 1) := by decide +kernel
theorem dX9_reasonAgainstAnswer_34 : decode cX9_reasonAgainstAnswer 34 = .ok (.iconst 2, 1) := by decide +kernel
theorem dX9_reasonAgainstAnswer_35 : decode cX9_reasonAgainstAnswer 35 = .ok (.iadd, 1) := by decide +kernel
theorem dX9_reasonAgainstAnswer_36 : decode cX9_reasonAgainstAnswer 36 = .ok (.iaload, 1) := by decide +kernel
theorem dX9_reasonAgainstAnswer_37 : decode cX9_reasonAgainstAnswer 37 = .ok (.invokevirtual 120, 3) := by decide +kernel
theorem dX9_reasonAgainstAnswer_40 : decode cX9_reasonAgainstAnswer 40 = .ok (.aload_n 0, 1) := by decide +kernel
theorem dX9_reasonAgainstAnswer_41 : decode cX9_reasonAgainstAnswer 41 = .ok (.getfield 7, 3) := by decide +kernel
theorem dX9_reasonAgainstAnswer_44 : decode cX9_reasonAgainstAnswer 44 = .ok (.iload_n 3, 1) := by decide +kernel
theorem dX9_reasonAgainstAnswer_45 : decode cX9_reasonAgainstAnswer 45 = .ok (.bipush 6, 2) := by decide +kernel
theorem dX9_reasonAgainstAnswer_47 : decode cX9_reasonAgainstAnswer 47 = .ok (.iadd, 1) := by decide +kernel
theorem dX9_reasonAgainstAnswer_48 : decode cX9_reasonAgainstAnswer 48 = .ok (.iaload, 1) := by decide +kernel
theorem dX9_reasonAgainstAnswer_49 : decode cX9_reasonAgainstAnswer 49 = .ok (.if_icmp .ge 6, 3) := by decide +kernel
theorem dX9_reasonAgainstAnswer_52 : decode cX9_reasonAgainstAnswer 52 = .ok (.bipush 8, 2) := by decide +kernel
theorem dX9_reasonAgainstAnswer_54 : decode cX9_reasonAgainstAnswer 54 = .ok (.ireturn, 1) := by decide +kernel
theorem dX9_reasonAgainstAnswer_55 : decode cX9_reasonAgainstAnswer 55 = .ok (.aload_n 0, 1) := by decide +kernel
theorem dX9_reasonAgainstAnswer_56 : decode cX9_reasonAgainstAnswer 56 = .ok (.aload_n 0, 1) := by decide +kernel
theorem dX9_reasonAgainstAnswer_57 : decode cX9_reasonAgainstAnswer 57 = .ok (.getfield 7, 3) := by decide +kernel
theorem dX9_reasonAgainstAnswer_60 : decode cX9_reasonAgainstAnswer 60 = .ok (.iload_n 3, 1) := by decide +kernel
theorem dX9_reasonAgainstAnswer_61 : decode cX9_reasonAgainstAnswer 61 = .ok (.iconst 1, 1) := by decide +kernel
theorem dX9_reasonAgainstAnswer_62 : decode cX9_reasonAgainstAnswer 62 = .ok (.iadd, 1) := by decide +kernel
theorem dX9_reasonAgainstAnswer_63 : decode cX9_reasonAgainstAnswer 63 = .ok (.iaload, 1) := by decide +kernel
theorem dX9_reasonAgainstAnswer_64 : decode cX9_reasonAgainstAnswer 64 = .ok (.aload_n 0, 1) := by decide +kernel
theorem dX9_reasonAgainstAnswer_65 : decode cX9_reasonAgainstAnswer 65 = .ok (.getfield 7, 3) := by decide +kernel
theorem dX9_reasonAgainstAnswer_68 : decode cX9_reasonAgainstAnswer 68 = .ok (.iload_n 3, 1) := by decide +kernel
theorem dX9_reasonAgainstAnswer_69 : decode cX9_reasonAgainstAnswer 69 = .ok (.iconst 2, 1) := by decide +kernel
theorem dX9_reasonAgainstAnswer_70 : decode cX9_reasonAgainstAnswer 70 = .ok (.iadd, 1) := by decide +kernel
theorem dX9_reasonAgainstAnswer_71 : decode cX9_reasonAgainstAnswer 71 = .ok (.iaload, 1) := by decide +kernel
theorem dX9_reasonAgainstAnswer_72 : decode cX9_reasonAgainstAnswer 72 = .ok (.aload_n 0, 1) := by decide +kernel
theorem dX9_reasonAgainstAnswer_73 : decode cX9_reasonAgainstAnswer 73 = .ok (.getfield 7, 3) := by decide +kernel
theorem dX9_reasonAgainstAnswer_76 : decode cX9_reasonAgainstAnswer 76 = .ok (.iload_n 3, 1) := by decide +kernel
theorem dX9_reasonAgainstAnswer_77 : decode cX9_reasonAgainstAnswer 77 = .ok (.iconst 3, 1) := by decide +kernel
theorem dX9_reasonAgainstAnswer_78 : decode cX9_reasonAgainstAnswer 78 = .ok (.iadd, 1) := by decide +kernel
theorem dX9_reasonAgainstAnswer_79 : decode cX9_reasonAgainstAnswer 79 = .ok (.iaload, 1) := by decide +kernel
theorem dX9_reasonAgainstAnswer_80 : decode cX9_reasonAgainstAnswer 80 = .ok (.aload_n 0, 1) := by decide +kernel
theorem dX9_reasonAgainstAnswer_81 : decode cX9_reasonAgainstAnswer 81 = .ok (.getfield 7, 3) := by decide +kernel
theorem dX9_reasonAgainstAnswer_84 : decode cX9_reasonAgainstAnswer 84 = .ok (.iload_n 3, 1) := by decide +kernel
theorem dX9_reasonAgainstAnswer_85 : decode cX9_reasonAgainstAnswer 85 = .ok (.iconst 4, 1) := by decide +kernel
theorem dX9_reasonAgainstAnswer_86 : decode cX9_reasonAgainstAnswer 86 = .ok (.iadd, 1) := by decide +kernel
theorem dX9_reasonAgainstAnswer_87 : decode cX9_reasonAgainstAnswer 87 = .ok (.iaload, 1) := by decide +kernel
theorem dX9_reasonAgainstAnswer_88 : decode cX9_reasonAgainstAnswer 88 = .ok (.aload_n 0, 1) := by decide +kernel
theorem dX9_reasonAgainstAnswer_89 : decode cX9_reasonAgainstAnswer 89 = .ok (.getfield 7, 3) := by decide +kernel
theorem dX9_reasonAgainstAnswer_92 : decode cX9_reasonAgainstAnswer 92 = .ok (.iload_n 3, 1) := by decide +kernel
theorem dX9_reasonAgainstAnswer_93 : decode cX9_reasonAgainstAnswer 93 = .ok (.iconst 5, 1) := by decide +kernel
theorem dX9_reasonAgainstAnswer_94 : decode cX9_reasonAgainstAnswer 94 = .ok (.iadd, 1) := by decide +kernel
theorem dX9_reasonAgainstAnswer_95 : decode cX9_reasonAgainstAnswer 95 = .ok (.iaload, 1) := by decide +kernel
theorem dX9_reasonAgainstAnswer_96 : decode cX9_reasonAgainstAnswer 96 = .ok (.invokevirtual 139, 3) := by decide +kernel
theorem dX9_reasonAgainstAnswer_99 : decode cX9_reasonAgainstAnswer 99 = .ok (.ifCond .eq 8, 3) := by decide +kernel
theorem dX9_reasonAgainstAnswer_102 : decode cX9_reasonAgainstAnswer 102 = .ok (.bipush 9, 2) := by decide +kernel
theorem dX9_reasonAgainstAnswer_104 : decode cX9_reasonAgainstAnswer 104 = .ok (.goto 4, 3) := by decide +kernel
theorem dX9_reasonAgainstAnswer_107 : decode cX9_reasonAgainstAnswer 107 = .ok (.iconst 0, 1) := by decide +kernel
theorem dX9_reasonAgainstAnswer_108 : decode cX9_reasonAgainstAnswer 108 = .ok (.ireturn, 1) := by decide +kernel
theorem dX9_answers_0 : decode cX9_answers 0 = .ok (.aload_n 0, 1) := by decide +kernel
theorem dX9_answers_1 : decode cX9_answers 1 = .ok (.bipush 6, 2) := by decide +kernel
theorem dX9_answers_3 : decode cX9_answers 3 = .ok (.iload_n 1, 1) := by decide +kernel
theorem dX9_answers_4 : decode cX9_answers 4 = .ok (.invokevirtual 64, 3) := by decide +kernel
theorem dX9_answers_7 : decode cX9_answers 7 = .ok (.ifCond .ne 5, 3) := by decide +kernel
theorem dX9_answers_10 : decode cX9_answers 10 = .ok (.iconst (-1), 1) := by decide +kernel
theorem dX9_answers_11 : decode cX9_answers 11 = .ok (.ireturn, 1) := by decide +kernel
theorem dX9_answers_12 : decode cX9_answers 12 = .ok (.sipush 756, 3) := by decide +kernel
theorem dX9_answers_15 : decode cX9_answers 15 = .ok (.bipush 10, 2) := by decide +kernel
theorem dX9_answers_17 : decode cX9_answers 17 = .ok (.iload_n 1, 1) := by decide +kernel
theorem dX9_answers_18 : decode cX9_answers 18 = .ok (.imul, 1) := by decide +kernel
theorem dX9_answers_19 : decode cX9_answers 19 = .ok (.iadd, 1) := by decide +kernel
theorem dX9_answers_20 : decode cX9_answers 20 = .ok (.istore_n 3, 1) := by decide +kernel
theorem dX9_answers_21 : decode cX9_answers 21 = .ok (.aload_n 0, 1) := by decide +kernel
theorem dX9_answers_22 : decode cX9_answers 22 = .ok (.getfield 7, 3) := by decide +kernel
theorem dX9_answers_25 : decode cX9_answers 25 = .ok (.iload_n 3, 1) := by decide +kernel
theorem dX9_answers_26 : decode cX9_answers 26 = .ok (.iconst 2, 1) := by decide +kernel
theorem dX9_answers_27 : decode cX9_answers 27 = .ok (.iadd, 1) := by decide +kernel
theorem dX9_answers_28 : decode cX9_answers 28 = .ok (.iaload, 1) := by decide +kernel
theorem dX9_answers_29 : decode cX9_answers 29 = .ok (.istore 4, 2) := by decide +kernel
theorem dX9_answers_31 : decode cX9_answers 31 = .ok (.aload_n 0, 1) := by decide +kernel
theorem dX9_answers_32 : decode cX9_answers 32 = .ok (.iload 4, 2) := by decide +kernel
theorem dX9_answers_34 : decode cX9_answers 34 = .ok (.invokevirtual 142, 3) := by decide +kernel
theorem dX9_answers_37 : decode cX9_answers 37 = .ok (.istore 5, 2) := by decide +kernel
theorem dX9_answers_39 : decode cX9_answers 39 = .ok (.aload_n 0, 1) := by decide +kernel
theorem dX9_answers_40 : decode cX9_answers 40 = .ok (.iload_n 1, 1) := by decide +kernel
theorem dX9_answers_41 : decode cX9_answers 41 = .ok (.iload 5, 2) := by decide +kernel
theorem dX9_answers_43 : decode cX9_answers 43 = .ok (.invokevirtual 145, 3) := by decide +kernel
theorem dX9_answers_46 : decode cX9_answers 46 = .ok (.istore 6, 2) := by decide +kernel
theorem dX9_answers_48 : decode cX9_answers 48 = .ok (.iload 6, 2) := by decide +kernel
theorem dX9_answers_50 : decode cX9_answers 50 = .ok (.ifCond .le 15, 3) := by decide +kernel
theorem dX9_answers_53 : decode cX9_answers 53 = .ok (.aload_n 0, 1) := by decide +kernel
theorem dX9_answers_54 : decode cX9_answers 54 = .ok (.getfield 7, 3) := by decide +kernel
theorem dX9_answers_57 : decode cX9_answers 57 = .ok (.bipush 7, 2) := by decide +kernel
theorem dX9_answers_59 : decode cX9_answers 59 = .ok (.iload 6, 2) := by decide +kernel
theorem dX9_answers_61 : decode cX9_answers 61 = .ok (.iastore, 1) := by decide +kernel
theorem dX9_answers_62 : decode cX9_answers 62 = .ok (.bipush (-5), 2) := by decide +kernel
theorem dX9_answers_64 : decode cX9_answers 64 = .ok (.ireturn, 1) := by decide +kernel
theorem dX9_answers_65 : decode cX9_answers 65 = .ok (.iload_n 2, 1) := by decide +kernel
theorem dX9_answers_66 : decode cX9_answers 66 = .ok (.ifCond .eq 7, 3) := by decide +kernel
theorem dX9_answers_69 : decode cX9_answers 69 = .ok (.aload_n 0, 1) := by decide +kernel
theorem dX9_answers_70 : decode cX9_answers 70 = .ok (.invokevirtual 54, 3) := by decide +kernel
theorem dX9_answers_73 : decode cX9_answers 73 = .ok (.iconst 0, 1) := by decide +kernel
theorem dX9_answers_74 : decode cX9_answers 74 = .ok (.istore 7, 2) := by decide +kernel
theorem dX9_answers_76 : decode cX9_answers 76 = .ok (.iload 7, 2) := by decide +kernel
theorem dX9_answers_78 : decode cX9_answers 78 = .ok (.aload_n 0, 1) := by decide +kernel
theorem dX9_answers_79 : decode cX9_answers 79 = .ok (.getfield 7, 3) := by decide +kernel
theorem dX9_answers_82 : decode cX9_answers 82 = .ok (.bipush 84, 2) := by decide +kernel
theorem dX9_answers_84 : decode cX9_answers 84 = .ok (.iconst 5, 1) := by decide +kernel
theorem dX9_answers_85 : decode cX9_answers 85 = .ok (.iload 4, 2) := by decide +kernel
theorem dX9_answers_87 : decode cX9_answers 87 = .ok (.imul, 1) := by decide +kernel
theorem dX9_answers_88 : decode cX9_answers 88 = .ok (.iadd, 1) := by decide +kernel
theorem dX9_answers_89 : decode cX9_answers 89 = .ok (.iconst 4, 1) := by decide +kernel
theorem dX9_answers_90 : decode cX9_answers 90 = .ok (.iadd, 1) := by decide +kernel
theorem dX9_answers_91 : decode cX9_answers 91 = .ok (.iaload, 1) := by decide +kernel
theorem dX9_answers_92 : decode cX9_answers 92 = .ok (.if_icmp .ge 124, 3) := by decide +kernel
theorem dX9_answers_95 : decode cX9_answers 95 = .ok (.aload_n 0, 1) := by decide +kernel
theorem dX9_answers_96 : decode cX9_answers 96 = .ok (.iload 4, 2) := by decide +kernel
theorem dX9_answers_98 : decode cX9_answers 98 = .ok (.iload 7, 2) := by decide +kernel
theorem dX9_answers_100 : decode cX9_answers 100 = .ok (.aload_n 0, 1) := by decide +kernel
theorem dX9_answers_101 : decode cX9_answers 101 = .ok (.getfield 7, 3) := by decide +kernel
theorem dX9_answers_104 : decode cX9_answers 104 = .ok (.iload_n 3, 1) := by decide +kernel
theorem dX9_answers_105 : decode cX9_answers 105 = .ok (.iconst 3, 1) := by decide +kernel
theorem dX9_answers_106 : decode cX9_answers 106 = .ok (.iadd, 1) := by decide +kernel
theorem dX9_answers_107 : decode cX9_answers 107 = .ok (.iaload, 1) := by decide +kernel
theorem dX9_answers_108 : decode cX9_answers 108 = .ok (.aload_n 0, 1) := by decide +kernel
theorem dX9_answers_109 : decode cX9_answers 109 = .ok (.getfield 7, 3) := by decide +kernel
theorem dX9_answers_112 : decode cX9_answers 112 = .ok (.iload_n 3, 1) := by decide +kernel
theorem dX9_answers_113 : decode cX9_answers 113 = .ok (.iconst 4, 1) := by decide +kernel
theorem dX9_answers_114 : decode cX9_answers 114 = .ok (.iadd, 1) := by decide +kernel
theorem dX9_answers_115 : decode cX9_answers 115 = .ok (.iaload, 1) := by decide +kernel
theorem dX9_answers_116 : decode cX9_answers 116 = .ok (.aload_n 0, 1) := by decide +kernel
theorem dX9_answers_117 : decode cX9_answers 117 = .ok (.getfield 7, 3) := by decide +kernel
theorem dX9_answers_120 : decode cX9_answers 120 = .ok (.iload_n 3, 1) := by decide +kernel
theorem dX9_answers_121 : decode cX9_answers 121 = .ok (.iconst 1, 1) := by decide +kernel
theorem dX9_answers_122 : decode cX9_answers 122 = .ok (.iadd, 1) := by decide +kernel
theorem dX9_answers_123 : decode cX9_answers 123 = .ok (.iaload, 1) := by decide +kernel
theorem dX9_answers_124 : decode cX9_answers 124 = .ok (.invokevirtual 123, 3) := by decide +kernel
theorem dX9_answers_127 : decode cX9_answers 127 = .ok (.aload_n 0, 1) := by decide +kernel
theorem dX9_answers_128 : decode cX9_answers 128 = .ok (.getfield 7, 3) := by decide +kernel
theorem dX9_answers_131 : decode cX9_answers 131 = .ok (.iload_n 3, 1) := by decide +kernel
theorem dX9_answers_132 : decode cX9_answers 132 = .ok (.iconst 5, 1) := by decide +kernel
theorem dX9_answers_133 : decode cX9_answers 133 = .ok (.iadd, 1) := by decide +kernel
theorem dX9_answers_134 : decode cX9_answers 134 = .ok (.iaload, 1) := by decide +kernel
theorem dX9_answers_135 : decode cX9_answers 135 = .ok (.invokestatic 129, 3) := by decide +kernel
theorem dX9_answers_138 : decode cX9_answers 138 = .ok (.imul, 1) := by decide +kernel
theorem dX9_answers_139 : decode cX9_answers 139 = .ok (.istore 8, 2) := by decide +kernel
theorem dX9_answers_141 : decode cX9_answers 141 = .ok (.aload_n 0, 1) := by decide +kernel
theorem dX9_answers_142 : decode cX9_answers 142 = .ok (.getfield 7, 3) := by decide +kernel
theorem dX9_answers_145 : decode cX9_answers 145 = .ok (.bipush 8, 2) := by decide +kernel
theorem dX9_answers_147 : decode cX9_answers 147 = .ok (.aload_n 0, 1) := by decide +kernel
theorem dX9_answers_148 : decode cX9_answers 148 = .ok (.getfield 7, 3) := by decide +kernel
theorem dX9_answers_151 : decode cX9_answers 151 = .ok (.sipush 164, 3) := by decide +kernel
theorem dX9_answers_154 : decode cX9_answers 154 = .ok (.bipush 16, 2) := by decide +kernel
theorem dX9_answers_156 : decode cX9_answers 156 = .ok (.iload 4, 2) := by decide +kernel
theorem dX9_answers_158 : decode cX9_answers 158 = .ok (.imul, 1) := by decide +kernel
theorem dX9_answers_159 : decode cX9_answers 159 = .ok (.iadd, 1) := by decide +kernel
theorem dX9_answers_160 : decode cX9_answers 160 = .ok (.iconst 4, 1) := by decide +kernel
theorem dX9_answers_161 : decode cX9_answers 161 = .ok (.iload 7, 2) := by decide +kernel
theorem dX9_answers_163 : decode cX9_answers 163 = .ok (.imul, 1) := by decide +kernel
theorem dX9_answers_164 : decode cX9_answers 164 = .ok (.iadd, 1) := by decide +kernel
theorem dX9_answers_165 : decode cX9_answers 165 = .ok (.iconst 2, 1) := by decide +kernel
theorem dX9_answers_166 : decode cX9_answers 166 = .ok (.iadd, 1) := by decide +kernel
theorem dX9_answers_167 : decode cX9_answers 167 = .ok (.iaload, 1) := by decide +kernel
theorem dX9_answers_168 : decode cX9_answers 168 = .ok (.iadd, 1) := by decide +kernel
theorem dX9_answers_169 : decode cX9_answers 169 = .ok (.dup2, 1) := by decide +kernel
theorem dX9_answers_170 : decode cX9_answers 170 = .ok (.iaload, 1) := by decide +kernel
theorem dX9_answers_171 : decode cX9_answers 171 = .ok (.iload 8, 2) := by decide +kernel
theorem dX9_answers_173 : decode cX9_answers 173 = .ok (.iadd, 1) := by decide +kernel
theorem dX9_answers_174 : decode cX9_answers 174 = .ok (.iastore, 1) := by decide +kernel
theorem dX9_answers_175 : decode cX9_answers 175 = .ok (.aload_n 0, 1) := by decide +kernel
theorem dX9_answers_176 : decode cX9_answers 176 = .ok (.getfield 7, 3) := by decide +kernel
theorem dX9_answers_179 : decode cX9_answers 179 = .ok (.bipush 16, 2) := by decide +kernel
theorem dX9_answers_181 : decode cX9_answers 181 = .ok (.aload_n 0, 1) := by decide +kernel
theorem dX9_answers_182 : decode cX9_answers 182 = .ok (.getfield 7, 3) := by decide +kernel
theorem dX9_answers_185 : decode cX9_answers 185 = .ok (.iload_n 3, 1) := by decide +kernel
theorem dX9_answers_186 : decode cX9_answers 186 = .ok (.iconst 1, 1) := by decide +kernel
theorem dX9_answers_187 : decode cX9_answers 187 = .ok (.iadd, 1) := by decide +kernel
theorem dX9_answers_188 : decode cX9_answers 188 = .ok (.iaload, 1) := by decide +kernel
theorem dX9_answers_189 : decode cX9_answers 189 = .ok (.iadd, 1) := by decide +kernel
theorem dX9_answers_190 : decode cX9_answers 190 = .ok (.dup2, 1) := by decide +kernel
theorem dX9_answers_191 : decode cX9_answers 191 = .ok (.iaload, 1) := by decide +kernel
theorem dX9_answers_192 : decode cX9_answers 192 = .ok (.iload 8, 2) := by decide +kernel
theorem dX9_answers_194 : decode cX9_answers 194 = .ok (.iadd, 1) := by decide +kernel
theorem dX9_answers_195 : decode cX9_answers 195 = .ok (.iastore, 1) := by decide +kernel
theorem dX9_answers_196 : decode cX9_answers 196 = .ok (.aload_n 0, 1) := by decide +kernel
theorem dX9_answers_197 : decode cX9_answers 197 = .ok (.getfield 7, 3) := by decide +kernel
theorem dX9_answers_200 : decode cX9_answers 200 = .ok (.iload_n 3, 1) := by decide +kernel
theorem dX9_answers_201 : decode cX9_answers 201 = .ok (.bipush 9, 2) := by decide +kernel
theorem dX9_answers_203 : decode cX9_answers 203 = .ok (.iadd, 1) := by decide +kernel
theorem dX9_answers_204 : decode cX9_answers 204 = .ok (.dup2, 1) := by decide +kernel
theorem dX9_answers_205 : decode cX9_answers 205 = .ok (.iaload, 1) := by decide +kernel
theorem dX9_answers_206 : decode cX9_answers 206 = .ok (.iload 8, 2) := by decide +kernel
theorem dX9_answers_208 : decode cX9_answers 208 = .ok (.iadd, 1) := by decide +kernel
theorem dX9_answers_209 : decode cX9_answers 209 = .ok (.iastore, 1) := by decide +kernel
theorem dX9_answers_210 : decode cX9_answers 210 = .ok (.iinc 7 1, 3) := by decide +kernel
theorem dX9_answers_213 : decode cX9_answers 213 = .ok (.goto (-137), 3) := by decide +kernel
theorem dX9_answers_216 : decode cX9_answers 216 = .ok (.aload_n 0, 1) := by decide +kernel
theorem dX9_answers_217 : decode cX9_answers 217 = .ok (.getfield 7, 3) := by decide +kernel
theorem dX9_answers_220 : decode cX9_answers 220 = .ok (.iload_n 3, 1) := by decide +kernel
theorem dX9_answers_221 : decode cX9_answers 221 = .ok (.iconst 1, 1) := by decide +kernel
theorem dX9_answers_222 : decode cX9_answers 222 = .ok (.iastore, 1) := by decide +kernel
theorem dX9_answers_223 : decode cX9_answers 223 = .ok (.aload_n 0, 1) := by decide +kernel
theorem dX9_answers_224 : decode cX9_answers 224 = .ok (.getfield 7, 3) := by decide +kernel
theorem dX9_answers_227 : decode cX9_answers 227 = .ok (.iload_n 3, 1) := by decide +kernel
theorem dX9_answers_228 : decode cX9_answers 228 = .ok (.bipush 8, 2) := by decide +kernel
theorem dX9_answers_230 : decode cX9_answers 230 = .ok (.iadd, 1) := by decide +kernel
theorem dX9_answers_231 : decode cX9_answers 231 = .ok (.iload 5, 2) := by decide +kernel
theorem dX9_answers_233 : decode cX9_answers 233 = .ok (.iastore, 1) := by decide +kernel
theorem dX9_answers_234 : decode cX9_answers 234 = .ok (.aload_n 0, 1) := by decide +kernel
theorem dX9_answers_235 : decode cX9_answers 235 = .ok (.getfield 7, 3) := by decide +kernel
theorem dX9_answers_238 : decode cX9_answers 238 = .ok (.bipush 7, 2) := by decide +kernel
theorem dX9_answers_240 : decode cX9_answers 240 = .ok (.iconst 0, 1) := by decide +kernel
theorem dX9_answers_241 : decode cX9_answers 241 = .ok (.iastore, 1) := by decide +kernel
theorem dX9_answers_242 : decode cX9_answers 242 = .ok (.iload 5, 2) := by decide +kernel
theorem dX9_answers_244 : decode cX9_answers 244 = .ok (.ireturn, 1) := by decide +kernel
theorem dX9_answer_0 : decode cX9_answer 0 = .ok (.aload_n 0, 1) := by decide +kernel
theorem dX9_answer_1 : decode cX9_answer 1 = .ok (.iload_n 1, 1) := by decide +kernel
theorem dX9_answer_2 : decode cX9_answer 2 = .ok (.iconst 1, 1) := by decide +kernel
theorem dX9_answer_3 : decode cX9_answer 3 = .ok (.invokevirtual 148, 3) := by decide +kernel
theorem dX9_answer_6 : decode cX9_answer 6 = .ok (.ireturn, 1) := by decide +kernel
theorem dX9_goesBy_0 : decode cX9_goesBy 0 = .ok (.iload_n 1, 1) := by decide +kernel
theorem dX9_goesBy_1 : decode cX9_goesBy 1 = .ok (.iconst 1, 1) := by decide +kernel
theorem dX9_goesBy_2 : decode cX9_goesBy 2 = .ok (.bipush 99, 2) := by decide +kernel
theorem dX9_goesBy_4 : decode cX9_goesBy 4 = .ok (.invokestatic 42, 3) := by decide +kernel
theorem dX9_goesBy_7 : decode cX9_goesBy 7 = .ok (.ifCond .ne 6, 3) := by decide +kernel
theorem dX9_goesBy_10 : decode cX9_goesBy 10 = .ok (.bipush (-2), 2) := by decide +kernel
theorem dX9_goesBy_12 : decode cX9_goesBy 12 = .ok (.ireturn, 1) := by decide +kernel
theorem dX9_goesBy_13 : decode cX9_goesBy 13 = .ok (.aload_n 0, 1) := by decide +kernel
theorem dX9_goesBy_14 : decode cX9_goesBy 14 = .ok (.getfield 7, 3) := by decide +kernel
theorem dX9_goesBy_17 : decode cX9_goesBy 17 = .ok (.iconst 0, 1) := by decide +kernel
theorem dX9_goesBy_18 : decode cX9_goesBy 18 = .ok (.iaload, 1) := by decide +kernel
theorem dX9_goesBy_19 : decode cX9_goesBy 19 = .ok (.iload_n 1, 1) := by decide +kernel
theorem dX9_goesBy_20 : decode cX9_goesBy 20 = .ok (.iadd, 1) := by decide +kernel
theorem dX9_goesBy_21 : decode cX9_goesBy 21 = .ok (.sipush 9999, 3) := by decide +kernel
theorem dX9_goesBy_24 : decode cX9_goesBy 24 = .ok (.if_icmp .le 6, 3) := by decide +kernel
theorem dX9_goesBy_27 : decode cX9_goesBy 27 = .ok (.bipush (-3), 2) := by decide +kernel
theorem dX9_goesBy_29 : decode cX9_goesBy 29 = .ok (.ireturn, 1) := by decide +kernel
theorem dX9_goesBy_30 : decode cX9_goesBy 30 = .ok (.iload_n 2, 1) := by decide +kernel
theorem dX9_goesBy_31 : decode cX9_goesBy 31 = .ok (.ifCond .eq 7, 3) := by decide +kernel
theorem dX9_goesBy_34 : decode cX9_goesBy 34 = .ok (.aload_n 0, 1) := by decide +kernel
theorem dX9_goesBy_35 : decode cX9_goesBy 35 = .ok (.invokevirtual 54, 3) := by decide +kernel
theorem dX9_goesBy_38 : decode cX9_goesBy 38 = .ok (.aload_n 0, 1) := by decide +kernel
theorem dX9_goesBy_39 : decode cX9_goesBy 39 = .ok (.getfield 7, 3) := by decide +kernel
theorem dX9_goesBy_42 : decode cX9_goesBy 42 = .ok (.iconst 0, 1) := by decide +kernel
theorem dX9_goesBy_43 : decode cX9_goesBy 43 = .ok (.dup2, 1) := by decide +kernel
theorem dX9_goesBy_44 : decode cX9_goesBy 44 = .ok (.iaload, 1) := by decide +kernel
theorem dX9_goesBy_45 : decode cX9_goesBy 45 = .ok (.iload_n 1, 1) := by decide +kernel
theorem dX9_goesBy_46 : decode cX9_goesBy 46 = .ok (.iadd, 1) := by decide +kernel
theorem dX9_goesBy_47 : decode cX9_goesBy 47 = .ok (.iastore, 1) := by decide +kernel
theorem dX9_goesBy_48 : decode cX9_goesBy 48 = .ok (.iconst 0, 1) := by decide +kernel
theorem dX9_goesBy_49 : decode cX9_goesBy 49 = .ok (.istore_n 3, 1) := by decide +kernel
theorem dX9_goesBy_50 : decode cX9_goesBy 50 = .ok (.iload_n 3, 1) := by decide +kernel
theorem dX9_goesBy_51 : decode cX9_goesBy 51 = .ok (.aload_n 0, 1) := by decide +kernel
theorem dX9_goesBy_52 : decode cX9_goesBy 52 = .ok (.getfield 7, 3) := by decide +kernel
theorem dX9_goesBy_55 : decode cX9_goesBy 55 = .ok (.iconst 2, 1) := by decide +kernel
theorem dX9_goesBy_56 : decode cX9_goesBy 56 = .ok (.iaload, 1) := by decide +kernel
theorem dX9_goesBy_57 : decode cX9_goesBy 57 = .ok (.if_icmp .ge 25, 3) := by decide +kernel
theorem dX9_goesBy_60 : decode cX9_goesBy 60 = .ok (.aload_n 0, 1) := by decide +kernel
theorem dX9_goesBy_61 : decode cX9_goesBy 61 = .ok (.getfield 7, 3) := by decide +kernel
theorem dX9_goesBy_64 : decode cX9_goesBy 64 = .ok (.bipush 64, 2) := by decide +kernel
theorem dX9_goesBy_66 : decode cX9_goesBy 66 = .ok (.iconst 5, 1) := by decide +kernel
theorem dX9_goesBy_67 : decode cX9_goesBy 67 = .ok (.iload_n 3, 1) := by decide +kernel
theorem dX9_goesBy_68 : decode cX9_goesBy 68 = .ok (.imul, 1) := by decide +kernel
theorem dX9_goesBy_69 : decode cX9_goesBy 69 = .ok (.iadd, 1) := by decide +kernel
theorem dX9_goesBy_70 : decode cX9_goesBy 70 = .ok (.iconst 4, 1) := by decide +kernel
theorem dX9_goesBy_71 : decode cX9_goesBy 71 = .ok (.iadd, 1) := by decide +kernel
theorem dX9_goesBy_72 : decode cX9_goesBy 72 = .ok (.sipush 28800, 3) := by decide +kernel
theorem dX9_goesBy_75 : decode cX9_goesBy 75 = .ok (.iastore, 1) := by decide +kernel
theorem dX9_goesBy_76 : decode cX9_goesBy 76 = .ok (.iinc 3 1, 3) := by decide +kernel
theorem dX9_goesBy_79 : decode cX9_goesBy 79 = .ok (.goto (-29), 3) := by decide +kernel
theorem dX9_goesBy_82 : decode cX9_goesBy 82 = .ok (.iconst 0, 1) := by decide +kernel
theorem dX9_goesBy_83 : decode cX9_goesBy 83 = .ok (.istore_n 3, 1) := by decide +kernel
theorem dX9_goesBy_84 : decode cX9_goesBy 84 = .ok (.iconst 0, 1) := by decide +kernel
theorem dX9_goesBy_85 : decode cX9_goesBy 85 = .ok (.istore 4, 2) := by decide +kernel
theorem dX9_goesBy_87 : decode cX9_goesBy 87 = .ok (.iload 4, 2) := by decide +kernel
theorem dX9_goesBy_89 : decode cX9_goesBy 89 = .ok (.aload_n 0, 1) := by decide +kernel
theorem dX9_goesBy_90 : decode cX9_goesBy 90 = .ok (.getfield 7, 3) := by decide +kernel
theorem dX9_goesBy_93 : decode cX9_goesBy 93 = .ok (.bipush 6, 2) := by decide +kernel
theorem dX9_goesBy_95 : decode cX9_goesBy 95 = .ok (.iaload, 1) := by decide +kernel
theorem dX9_goesBy_96 : decode cX9_goesBy 96 = .ok (.if_icmp .ge 62, 3) := by decide +kernel
theorem dX9_goesBy_99 : decode cX9_goesBy 99 = .ok (.aload_n 0, 1) := by decide +kernel
theorem dX9_goesBy_100 : decode cX9_goesBy 100 = .ok (.iload 4, 2) := by decide +kernel
theorem dX9_goesBy_102 : decode cX9_goesBy 102 = .ok (.invokevirtual 132, 3) := by decide +kernel
theorem dX9_goesBy_105 : decode cX9_goesBy 105 = .ok (.ifCond .eq 47, 3) := by decide +kernel
theorem dX9_goesBy_108 : decode cX9_goesBy 108 = .ok (.aload_n 0, 1) := by decide +kernel
theorem dX9_goesBy_109 : decode cX9_goesBy 109 = .ok (.getfield 7, 3) := by decide +kernel
theorem dX9_goesBy_112 : decode cX9_goesBy 112 = .ok (.sipush 756, 3) := by decide +kernel
theorem dX9_goesBy_115 : decode cX9_goesBy 115 = .ok (.bipush 10, 2) := by decide +kernel
theorem dX9_goesBy_117 : decode cX9_goesBy 117 = .ok (.iload 4, 2) := by decide +kernel
theorem dX9_goesBy_119 : decode cX9_goesBy 119 = .ok (.imul, 1) := by decide +kernel
theorem dX9_goesBy_120 : decode cX9_goesBy 120 = .ok (.iadd, 1) := by decide +kernel
theorem dX9_goesBy_121 : decode cX9_goesBy 121 = .ok (.bipush 7, 2) := by decide +kernel
theorem dX9_goesBy_123 : decode cX9_goesBy 123 = .ok (.iadd, 1) := by decide +kernel
theorem dX9_goesBy_124 : decode cX9_goesBy 124 = .ok (.iaload, 1) := by decide +kernel
theorem dX9_goesBy_125 : decode cX9_goesBy 125 = .ok (.aload_n 0, 1) := by decide +kernel
theorem dX9_goesBy_126 : decode cX9_goesBy 126 = .ok (.getfield 7, 3) := by decide +kernel
theorem dX9_goesBy_129 : decode cX9_goesBy 129 = .ok (.iconst 0, 1) := by decide +kernel
theorem dX9_goesBy_130 : decode cX9_goesBy 130 = .ok (.iaload, 1) := by decide +kernel
theorem dX9_goesBy_131 : decode cX9_goesBy 131 = .ok (.if_icmp .ge 21, 3) := by decide +kernel
theorem dX9_goesBy_134 : decode cX9_goesBy 134 = .ok (.aload_n 0, 1) := by decide +kernel
theorem dX9_goesBy_135 : decode cX9_goesBy 135 = .ok (.getfield 7, 3) := by decide +kernel
theorem dX9_goesBy_138 : decode cX9_goesBy 138 = .ok (.sipush 756, 3) := by decide +kernel
theorem dX9_goesBy_141 : decode cX9_goesBy 141 = .ok (.bipush 10, 2) := by decide +kernel
theorem dX9_goesBy_143 : decode cX9_goesBy 143 = .ok (.iload 4, 2) := by decide +kernel
theorem dX9_goesBy_145 : decode cX9_goesBy 145 = .ok (.imul, 1) := by decide +kernel
theorem dX9_goesBy_146 : decode cX9_goesBy 146 = .ok (.iadd, 1) := by decide +kernel
theorem dX9_goesBy_147 : decode cX9_goesBy 147 = .ok (.iconst 2, 1) := by decide +kernel
theorem dX9_goesBy_148 : decode cX9_goesBy 148 = .ok (.iastore, 1) := by decide +kernel
theorem dX9_goesBy_149 : decode cX9_goesBy 149 = .ok (.iinc 3 1, 3) := by decide +kernel
theorem dX9_goesBy_152 : decode cX9_goesBy 152 = .ok (.iinc 4 1, 3) := by decide +kernel
theorem dX9_goesBy_155 : decode cX9_goesBy 155 = .ok (.goto (-68), 3) := by decide +kernel
theorem dX9_goesBy_158 : decode cX9_goesBy 158 = .ok (.iload_n 3, 1) := by decide +kernel
theorem dX9_goesBy_159 : decode cX9_goesBy 159 = .ok (.ireturn, 1) := by decide +kernel
theorem dX9_passDays_0 : decode cX9_passDays 0 = .ok (.aload_n 0, 1) := by decide +kernel
theorem dX9_passDays_1 : decode cX9_passDays 1 = .ok (.iload_n 1, 1) := by decide +kernel
theorem dX9_passDays_2 : decode cX9_passDays 2 = .ok (.iconst 1, 1) := by decide +kernel
theorem dX9_passDays_3 : decode cX9_passDays 3 = .ok (.invokevirtual 152, 3) := by decide +kernel
theorem dX9_passDays_6 : decode cX9_passDays 6 = .ok (.ireturn, 1) := by decide +kernel
theorem dX9_append_0 : decode cX9_append 0 = .ok (.iload_n 1, 1) := by decide +kernel
theorem dX9_append_1 : decode cX9_append 1 = .ok (.bipush 32, 2) := by decide +kernel
theorem dX9_append_3 : decode cX9_append 3 = .ok (.bipush 126, 2) := by decide +kernel
theorem dX9_append_5 : decode cX9_append 5 = .ok (.invokestatic 42, 3) := by decide +kernel
theorem dX9_append_8 : decode cX9_append 8 = .ok (.ifCond .ne 6, 3) := by decide +kernel
theorem dX9_append_11 : decode cX9_append 11 = .ok (.bipush (-2), 2) := by decide +kernel
theorem dX9_append_13 : decode cX9_append 13 = .ok (.ireturn, 1) := by decide +kernel
theorem dX9_append_14 : decode cX9_append 14 = .ok (.aload_n 0, 1) := by decide +kernel
theorem dX9_append_15 : decode cX9_append 15 = .ok (.getfield 155, 3) := by decide +kernel
theorem dX9_append_18 : decode cX9_append 18 = .ok (.bipush 80, 2) := by decide +kernel
theorem dX9_append_20 : decode cX9_append 20 = .ok (.if_icmp .ne 6, 3) := by decide +kernel
theorem dX9_append_23 : decode cX9_append 23 = .ok (.bipush (-4), 2) := by decide +kernel
theorem dX9_append_25 : decode cX9_append 25 = .ok (.ireturn, 1) := by decide +kernel
theorem dX9_append_26 : decode cX9_append 26 = .ok (.aload_n 0, 1) := by decide +kernel
theorem dX9_append_27 : decode cX9_append 27 = .ok (.getfield 23, 3) := by decide +kernel
theorem dX9_append_30 : decode cX9_append 30 = .ok (.aload_n 0, 1) := by decide +kernel
theorem dX9_append_31 : decode cX9_append 31 = .ok (.getfield 155, 3) := by decide +kernel
theorem dX9_append_34 : decode cX9_append 34 = .ok (.iload_n 1, 1) := by decide +kernel
theorem dX9_append_35 : decode cX9_append 35 = .ok (.iastore, 1) := by decide +kernel
theorem dX9_append_36 : decode cX9_append 36 = .ok (.aload_n 0, 1) := by decide +kernel
theorem dX9_append_37 : decode cX9_append 37 = .ok (.dup, 1) := by decide +kernel
theorem dX9_append_38 : decode cX9_append 38 = .ok (.getfield 155, 3) := by decide +kernel
theorem dX9_append_41 : decode cX9_append 41 = .ok (.iconst 1, 1) := by decide +kernel
theorem dX9_append_42 : decode cX9_append 42 = .ok (.iadd, 1) := by decide +kernel
theorem dX9_append_43 : decode cX9_append 43 = .ok (.putfield 155, 3) := by decide +kernel
theorem dX9_append_46 : decode cX9_append 46 = .ok (.aload_n 0, 1) := by decide +kernel
theorem dX9_append_47 : decode cX9_append 47 = .ok (.getfield 155, 3) := by decide +kernel
theorem dX9_append_50 : decode cX9_append 50 = .ok (.ireturn, 1) := by decide +kernel
theorem dX9_clearText_0 : decode cX9_clearText 0 = .ok (.aload_n 0, 1) := by decide +kernel
theorem dX9_clearText_1 : decode cX9_clearText 1 = .ok (.getfield 155, 3) := by decide +kernel
theorem dX9_clearText_4 : decode cX9_clearText 4 = .ok (.istore_n 1, 1) := by decide +kernel
theorem dX9_clearText_5 : decode cX9_clearText 5 = .ok (.aload_n 0, 1) := by decide +kernel
theorem dX9_clearText_6 : decode cX9_clearText 6 = .ok (.iconst 0, 1) := by decide +kernel
theorem dX9_clearText_7 : decode cX9_clearText 7 = .ok (.putfield 155, 3) := by decide +kernel
theorem dX9_clearText_10 : decode cX9_clearText 10 = .ok (.iload_n 1, 1) := by decide +kernel
theorem dX9_clearText_11 : decode cX9_clearText 11 = .ok (.ireturn, 1) := by decide +kernel
theorem dX9_letter_0 : decode cX9_letter 0 = .ok (.aload_n 0, 1) := by decide +kernel
theorem dX9_letter_1 : decode cX9_letter 1 = .ok (.getfield 158, 3) := by decide +kernel
theorem dX9_letter_4 : decode cX9_letter 4 = .ok (.aload_n 0, 1) := by decide +kernel
theorem dX9_letter_5 : decode cX9_letter 5 = .ok (.getfield 155, 3) := by decide +kernel
theorem dX9_letter_8 : decode cX9_letter 8 = .ok (.if_icmp .ge 20, 3) := by decide +kernel
theorem dX9_letter_11 : decode cX9_letter 11 = .ok (.aload_n 0, 1) := by decide +kernel
theorem dX9_letter_12 : decode cX9_letter 12 = .ok (.getfield 23, 3) := by decide +kernel
theorem dX9_letter_15 : decode cX9_letter 15 = .ok (.aload_n 0, 1) := by decide +kernel
theorem dX9_letter_16 : decode cX9_letter 16 = .ok (.getfield 158, 3) := by decide +kernel
theorem dX9_letter_19 : decode cX9_letter 19 = .ok (.iaload, 1) := by decide +kernel
theorem dX9_letter_20 : decode cX9_letter 20 = .ok (.iload_n 1, 1) := by decide +kernel
theorem dX9_letter_21 : decode cX9_letter 21 = .ok (.if_icmp .ne 7, 3) := by decide +kernel
theorem dX9_letter_24 : decode cX9_letter 24 = .ok (.iconst 1, 1) := by decide +kernel
theorem dX9_letter_25 : decode cX9_letter 25 = .ok (.goto 4, 3) := by decide +kernel
theorem dX9_letter_28 : decode cX9_letter 28 = .ok (.iconst 0, 1) := by decide +kernel
theorem dX9_letter_29 : decode cX9_letter 29 = .ok (.istore_n 2, 1) := by decide +kernel
theorem dX9_letter_30 : decode cX9_letter 30 = .ok (.aload_n 0, 1) := by decide +kernel
theorem dX9_letter_31 : decode cX9_letter 31 = .ok (.dup, 1) := by decide +kernel
theorem dX9_letter_32 : decode cX9_letter 32 = .ok (.getfield 158, 3) := by decide +kernel
theorem dX9_letter_35 : decode cX9_letter 35 = .ok (.iload_n 2, 1) := by decide +kernel
theorem dX9_letter_36 : decode cX9_letter 36 = .ok (.ifCond .eq 7, 3) := by decide +kernel
theorem dX9_letter_39 : decode cX9_letter 39 = .ok (.iconst 1, 1) := by decide +kernel
theorem dX9_letter_40 : decode cX9_letter 40 = .ok (.goto 4, 3) := by decide +kernel
theorem dX9_letter_43 : decode cX9_letter 43 = .ok (.iconst 0, 1) := by decide +kernel
theorem dX9_letter_44 : decode cX9_letter 44 = .ok (.iadd, 1) := by decide +kernel
theorem dX9_letter_45 : decode cX9_letter 45 = .ok (.putfield 158, 3) := by decide +kernel
theorem dX9_letter_48 : decode cX9_letter 48 = .ok (.iload_n 2, 1) := by decide +kernel
theorem dX9_letter_49 : decode cX9_letter 49 = .ok (.ireturn, 1) := by decide +kernel
theorem dX9_number_0 : decode cX9_number 0 = .ok (.aload_n 0, 1) := by decide +kernel
theorem dX9_number_1 : decode cX9_number 1 = .ok (.getfield 158, 3) := by decide +kernel
theorem dX9_number_4 : decode cX9_number 4 = .ok (.istore 4, 2) := by decide +kernel
theorem dX9_number_6 : decode cX9_number 6 = .ok (.iconst 0, 1) := by decide +kernel
theorem dX9_number_7 : decode cX9_number 7 = .ok (.istore 5, 2) := by decide +kernel
theorem dX9_number_9 : decode cX9_number 9 = .ok (.aload_n 0, 1) := by decide +kernel
theorem dX9_number_10 : decode cX9_number 10 = .ok (.getfield 158, 3) := by decide +kernel
theorem dX9_number_13 : decode cX9_number 13 = .ok (.aload_n 0, 1) := by decide +kernel
theorem dX9_number_14 : decode cX9_number 14 = .ok (.getfield 155, 3) := by decide +kernel
theorem dX9_number_17 : decode cX9_number 17 = .ok (.if_icmp .ge 87, 3) := by decide +kernel
theorem dX9_number_20 : decode cX9_number 20 = .ok (.aload_n 0, 1) := by decide +kernel
theorem dX9_number_21 : decode cX9_number 21 = .ok (.getfield 23, 3) := by decide +kernel
theorem dX9_number_24 : decode cX9_number 24 = .ok (.aload_n 0, 1) := by decide +kernel
theorem dX9_number_25 : decode cX9_number 25 = .ok (.getfield 158, 3) := by decide +kernel
theorem dX9_number_28 : decode cX9_number 28 = .ok (.iaload, 1) := by decide +kernel
theorem dX9_number_29 : decode cX9_number 29 = .ok (.bipush 48, 2) := by decide +kernel
theorem dX9_number_31 : decode cX9_number 31 = .ok (.bipush 57, 2) := by decide +kernel
theorem dX9_number_33 : decode cX9_number 33 = .ok (.invokestatic 42, 3) := by decide +kernel
theorem dX9_number_36 : decode cX9_number 36 = .ok (.ifCond .eq 68, 3) := by decide +kernel
theorem dX9_number_39 : decode cX9_number 39 = .ok (.aload_n 0, 1) := by decide +kernel
theorem dX9_number_40 : decode cX9_number 40 = .ok (.getfield 158, 3) := by decide +kernel
theorem dX9_number_43 : decode cX9_number 43 = .ok (.iload 4, 2) := by decide +kernel
theorem dX9_number_45 : decode cX9_number 45 = .ok (.iconst 3, 1) := by decide +kernel
theorem dX9_number_46 : decode cX9_number 46 = .ok (.iadd, 1) := by decide +kernel
theorem dX9_number_47 : decode cX9_number 47 = .ok (.if_icmp .ge 57, 3) := by decide +kernel
theorem dX9_number_50 : decode cX9_number 50 = .ok (.aload_n 0, 1) := by decide +kernel
theorem dX9_number_51 : decode cX9_number 51 = .ok (.getfield 158, 3) := by decide +kernel
theorem dX9_number_54 : decode cX9_number 54 = .ok (.iload 4, 2) := by decide +kernel
theorem dX9_number_56 : decode cX9_number 56 = .ok (.if_icmp .eq 15, 3) := by decide +kernel
theorem dX9_number_59 : decode cX9_number 59 = .ok (.aload_n 0, 1) := by decide +kernel
theorem dX9_number_60 : decode cX9_number 60 = .ok (.getfield 23, 3) := by decide +kernel
theorem dX9_number_63 : decode cX9_number 63 = .ok (.iload 4, 2) := by decide +kernel
theorem dX9_number_65 : decode cX9_number 65 = .ok (.iaload, 1) := by decide +kernel
theorem dX9_number_66 : decode cX9_number 66 = .ok (.bipush 48, 2) := by decide +kernel
theorem dX9_number_68 : decode cX9_number 68 = .ok (.if_icmp .eq 36, 3) := by decide +kernel
theorem dX9_number_71 : decode cX9_number 71 = .ok (.bipush 10, 2) := by decide +kernel
theorem dX9_number_73 : decode cX9_number 73 = .ok (.iload 5, 2) := by decide +kernel
theorem dX9_number_75 : decode cX9_number 75 = .ok (.imul, 1) := by decide +kernel
theorem dX9_number_76 : decode cX9_number 76 = .ok (.aload_n 0, 1) := by decide +kernel
theorem dX9_number_77 : decode cX9_number 77 = .ok (.getfield 23, 3) := by decide +kernel
theorem dX9_number_80 : decode cX9_number 80 = .ok (.aload_n 0, 1) := by decide +kernel
theorem dX9_number_81 : decode cX9_number 81 = .ok (.getfield 158, 3) := by decide +kernel
theorem dX9_number_84 : decode cX9_number 84 = .ok (.iaload, 1) := by decide +kernel
theorem dX9_number_85 : decode cX9_number 85 = .ok (.iadd, 1) := by decide +kernel
theorem dX9_number_86 : decode cX9_number 86 = .ok (.bipush 48, 2) := by decide +kernel
theorem dX9_number_88 : decode cX9_number 88 = .ok (.isub, 1) := by decide +kernel
theorem dX9_number_89 : decode cX9_number 89 = .ok (.istore 5, 2) := by decide +kernel
theorem dX9_number_91 : decode cX9_number 91 = .ok (.aload_n 0, 1) := by decide +kernel
theorem dX9_number_92 : decode cX9_number 92 = .ok (.dup, 1) := by decide +kernel
theorem dX9_number_93 : decode cX9_number 93 = .ok (.getfield 158, 3) := by decide +kernel
theorem dX9_number_96 : decode cX9_number 96 = .ok (.iconst 1, 1) := by decide +kernel
theorem dX9_number_97 : decode cX9_number 97 = .ok (.iadd, 1) := by decide +kernel
theorem dX9_number_98 : decode cX9_number 98 = .ok (.putfield 158, 3) := by decide +kernel
theorem dX9_number_101 : decode cX9_number 101 = .ok (.goto (-92), 3) := by decide +kernel
theorem dX9_number_104 : decode cX9_number 104 = .ok (.aload_n 0, 1) := by decide +kernel
theorem dX9_number_105 : decode cX9_number 105 = .ok (.getfield 158, 3) := by decide +kernel
theorem dX9_number_108 : decode cX9_number 108 = .ok (.iload 4, 2) := by decide +kernel
theorem dX9_number_110 : decode cX9_number 110 = .ok (.if_icmp .ne 5, 3) := by decide +kernel
theorem dX9_number_113 : decode cX9_number 113 = .ok (.iconst 0, 1) := by decide +kernel
theorem dX9_number_114 : decode cX9_number 114 = .ok (.ireturn, 1) := by decide +kernel
theorem dX9_number_115 : decode cX9_number 115 = .ok (.iload 5, 2) := by decide +kernel
theorem dX9_number_117 : decode cX9_number 117 = .ok (.iload_n 2, 1) := by decide +kernel
theorem dX9_number_118 : decode cX9_number 118 = .ok (.iload_n 3, 1) := by decide +kernel
theorem dX9_number_119 : decode cX9_number 119 = .ok (.invokestatic 42, 3) := by decide +kernel
theorem dX9_number_122 : decode cX9_number 122 = .ok (.ifCond .ne 11, 3) := by decide +kernel
theorem dX9_number_125 : decode cX9_number 125 = .ok (.aload_n 0, 1) := by decide +kernel
theorem dX9_number_126 : decode cX9_number 126 = .ok (.iload 4, 2) := by decide +kernel
theorem dX9_number_128 : decode cX9_number 128 = .ok (.putfield 158, 3) := by decide +kernel
theorem dX9_number_131 : decode cX9_number 131 = .ok (.iconst 0, 1) := by decide +kernel
theorem dX9_number_132 : decode cX9_number 132 = .ok (.ireturn, 1) := by decide +kernel
theorem dX9_number_133 : decode cX9_number 133 = .ok (.aload_n 0, 1) := by decide +kernel
theorem dX9_number_134 : decode cX9_number 134 = .ok (.getfield 35, 3) := by decide +kernel
theorem dX9_number_137 : decode cX9_number 137 = .ok (.iload_n 1, 1) := by decide +kernel
theorem dX9_number_138 : decode cX9_number 138 = .ok (.iload 5, 2) := by decide +kernel
theorem dX9_number_140 : decode cX9_number 140 = .ok (.iastore, 1) := by decide +kernel
theorem dX9_number_141 : decode cX9_number 141 = .ok (.iconst 1, 1) := by decide +kernel
theorem dX9_number_142 : decode cX9_number 142 = .ok (.ireturn, 1) := by decide +kernel
theorem dX9_readAct_0 : decode cX9_readAct 0 = .ok (.aload_n 0, 1) := by decide +kernel
theorem dX9_readAct_1 : decode cX9_readAct 1 = .ok (.aload_n 0, 1) := by decide +kernel
theorem dX9_readAct_2 : decode cX9_readAct 2 = .ok (.getfield 158, 3) := by decide +kernel
theorem dX9_readAct_5 : decode cX9_readAct 5 = .ok (.aload_n 0, 1) := by decide +kernel
theorem dX9_readAct_6 : decode cX9_readAct 6 = .ok (.getfield 155, 3) := by decide +kernel
theorem dX9_readAct_9 : decode cX9_readAct 9 = .ok (.if_icmp .ge 15, 3) := by decide +kernel
theorem dX9_readAct_12 : decode cX9_readAct 12 = .ok (.aload_n 0, 1) := by decide +kernel
theorem dX9_readAct_13 : decode cX9_readAct 13 = .ok (.getfield 23, 3) := by decide +kernel
theorem dX9_readAct_16 : decode cX9_readAct 16 = .ok (.aload_n 0, 1) := by decide +kernel
theorem dX9_readAct_17 : decode cX9_readAct 17 = .ok (.getfield 158, 3) := by decide +kernel
theorem dX9_readAct_20 : decode cX9_readAct 20 = .ok (.iaload, 1) := by decide +kernel
theorem dX9_readAct_21 : decode cX9_readAct 21 = .ok (.goto 4, 3) := by decide +kernel
theorem dX9_readAct_24 : decode cX9_readAct 24 = .ok (.iconst 0, 1) := by decide +kernel
theorem dX9_readAct_25 : decode cX9_readAct 25 = .ok (.putfield 161, 3) := by decide +kernel
theorem dX9_readAct_28 : decode cX9_readAct 28 = .ok (.aload_n 0, 1) := by decide +kernel
theorem dX9_readAct_29 : decode cX9_readAct 29 = .ok (.bipush 116, 2) := by decide +kernel
theorem dX9_readAct_31 : decode cX9_readAct 31 = .ok (.invokevirtual 164, 3) := by decide +kernel
theorem dX9_readAct_34 : decode cX9_readAct 34 = .ok (.ifCond .eq 88, 3) := by decide +kernel
theorem dX9_readAct_37 : decode cX9_readAct 37 = .ok (.aload_n 0, 1) := by decide +kernel
theorem dX9_readAct_38 : decode cX9_readAct 38 = .ok (.iconst 0, 1) := by decide +kernel
theorem dX9_readAct_39 : decode cX9_readAct 39 = .ok (.iconst 0, 1) := by decide +kernel
theorem dX9_readAct_40 : decode cX9_readAct 40 = .ok (.bipush 7, 2) := by decide +kernel
theorem dX9_readAct_42 : decode cX9_readAct 42 = .ok (.invokevirtual 167, 3) := by decide +kernel
theorem dX9_readAct_45 : decode cX9_readAct 45 = .ok (.ifCond .eq 75, 3) := by decide +kernel
theorem dX9_readAct_48 : decode cX9_readAct 48 = .ok (.aload_n 0, 1) := by decide +kernel
theorem dX9_readAct_49 : decode cX9_readAct 49 = .ok (.bipush 109, 2) := by decide +kernel
theorem dX9_readAct_51 : decode cX9_readAct 51 = .ok (.invokevirtual 164, 3) := by decide +kernel
theorem dX9_readAct_54 : decode cX9_readAct 54 = .ok (.ifCond .eq 66, 3) := by decide +kernel
theorem dX9_readAct_57 : decode cX9_readAct 57 = .ok (.aload_n 0, 1) := by decide +kernel
theorem dX9_readAct_58 : decode cX9_readAct 58 = .ok (.iconst 1, 1) := by decide +kernel
theorem dX9_readAct_59 : decode cX9_readAct 59 = .ok (.iconst 0, 1) := by decide +kernel
theorem dX9_readAct_60 : decode cX9_readAct 60 = .ok (.iconst 3, 1) := by decide +kernel
theorem dX9_readAct_61 : decode cX9_readAct 61 = .ok (.invokevirtual 167, 3) := by decide +kernel
theorem dX9_readAct_64 : decode cX9_readAct 64 = .ok (.ifCond .eq 56, 3) := by decide +kernel
theorem dX9_readAct_67 : decode cX9_readAct 67 = .ok (.aload_n 0, 1) := by decide +kernel
theorem dX9_readAct_68 : decode cX9_readAct 68 = .ok (.bipush 118, 2) := by decide +kernel
theorem dX9_readAct_70 : decode cX9_readAct 70 = .ok (.invokevirtual 164, 3) := by decide +kernel
theorem dX9_readAct_73 : decode cX9_readAct 73 = .ok (.ifCond .eq 47, 3) := by decide +kernel
theorem dX9_readAct_76 : decode cX9_readAct 76 = .ok (.aload_n 0, 1) := by decide +kernel
theorem dX9_readAct_77 : decode cX9_readAct 77 = .ok (.iconst 2, 1) := by decide +kernel
theorem dX9_readAct_78 : decode cX9_readAct 78 = .ok (.iconst 1, 1) := by decide +kernel
theorem dX9_readAct_79 : decode cX9_readAct 79 = .ok (.sipush 380, 3) := by decide +kernel
theorem dX9_readAct_82 : decode cX9_readAct 82 = .ok (.invokevirtual 167, 3) := by decide +kernel
theorem dX9_readAct_85 : decode cX9_readAct 85 = .ok (.ifCond .eq 35, 3) := by decide +kernel
theorem dX9_readAct_88 : decode cX9_readAct 88 = .ok (.aload_n 0, 1) := by decide +kernel
theorem dX9_readAct_89 : decode cX9_readAct 89 = .ok (.bipush 115, 2) := by decide +kernel
theorem dX9_readAct_91 : decode cX9_readAct 91 = .ok (.invokevirtual 164, 3) := by decide +kernel
theorem dX9_readAct_94 : decode cX9_readAct 94 = .ok (.ifCond .eq 26, 3) := by decide +kernel
theorem dX9_readAct_97 : decode cX9_readAct 97 = .ok (.aload_n 0, 1) := by decide +kernel
theorem dX9_readAct_98 : decode cX9_readAct 98 = .ok (.iconst 3, 1) := by decide +kernel
theorem dX9_readAct_99 : decode cX9_readAct 99 = .ok (.iconst 0, 1) := by decide +kernel
theorem dX9_readAct_100 : decode cX9_readAct 100 = .ok (.iconst 1, 1) := by decide +kernel
theorem dX9_readAct_101 : decode cX9_readAct 101 = .ok (.invokevirtual 167, 3) := by decide +kernel
theorem dX9_readAct_104 : decode cX9_readAct 104 = .ok (.ifCond .eq 16, 3) := by decide +kernel
theorem dX9_readAct_107 : decode cX9_readAct 107 = .ok (.aload_n 0, 1) := by decide +kernel
theorem dX9_readAct_108 : decode cX9_readAct 108 = .ok (.bipush 59, 2) := by decide +kernel
theorem dX9_readAct_110 : decode cX9_readAct 110 = .ok (.invokevirtual 164, 3) := by decide +kernel
theorem dX9_readAct_113 : decode cX9_readAct 113 = .ok (.ifCond .eq 7, 3) := by decide +kernel
theorem dX9_readAct_116 : decode cX9_readAct 116 = .ok (.iconst 1, 1) := by decide +kernel
theorem dX9_readAct_117 : decode cX9_readAct 117 = .ok (.goto 4, 3) := by decide +kernel
theorem dX9_readAct_120 : decode cX9_readAct 120 = .ok (.iconst 0, 1) := by decide +kernel
theorem dX9_readAct_121 : decode cX9_readAct 121 = .ok (.ireturn, 1) := by decide +kernel
theorem dX9_readAct_122 : decode cX9_readAct 122 = .ok (.aload_n 0, 1) := by decide +kernel
theorem dX9_readAct_123 : decode cX9_readAct 123 = .ok (.bipush 97, 2) := by decide +kernel
theorem dX9_readAct_125 : decode cX9_readAct 125 = .ok (.invokevirtual 164, 3) := by decide +kernel
theorem dX9_readAct_128 : decode cX9_readAct 128 = .ok (.ifCond .eq 29, 3) := by decide +kernel
theorem dX9_readAct_131 : decode cX9_readAct 131 = .ok (.aload_n 0, 1) := by decide +kernel
theorem dX9_readAct_132 : decode cX9_readAct 132 = .ok (.iconst 0, 1) := by decide +kernel
theorem dX9_readAct_133 : decode cX9_readAct 133 = .ok (.iconst 0, 1) := by decide +kernel
theorem dX9_readAct_134 : decode cX9_readAct 134 = .ok (.bipush 15, 2) := by decide +kernel
theorem dX9_readAct_136 : decode cX9_readAct 136 = .ok (.invokevirtual 167, 3) := by decide +kernel
theorem dX9_readAct_139 : decode cX9_readAct 139 = .ok (.ifCond .eq 16, 3) := by decide +kernel
theorem dX9_readAct_142 : decode cX9_readAct 142 = .ok (.aload_n 0, 1) := by decide +kernel
theorem dX9_readAct_143 : decode cX9_readAct 143 = .ok (.bipush 59, 2) := by decide +kernel
theorem dX9_readAct_145 : decode cX9_readAct 145 = .ok (.invokevirtual 164, 3) := by decide +kernel
theorem dX9_readAct_148 : decode cX9_readAct 148 = .ok (.ifCond .eq 7, 3) := by decide +kernel
theorem dX9_readAct_151 : decode cX9_readAct 151 = .ok (.iconst 1, 1) := by decide +kernel
theorem dX9_readAct_152 : decode cX9_readAct 152 = .ok (.goto 4, 3) := by decide +kernel
theorem dX9_readAct_155 : decode cX9_readAct 155 = .ok (.iconst 0, 1) := by decide +kernel
theorem dX9_readAct_156 : decode cX9_readAct 156 = .ok (.ireturn, 1) := by decide +kernel
theorem dX9_readAct_157 : decode cX9_readAct 157 = .ok (.aload_n 0, 1) := by decide +kernel
theorem dX9_readAct_158 : decode cX9_readAct 158 = .ok (.bipush 100, 2) := by decide +kernel
theorem dX9_readAct_160 : decode cX9_readAct 160 = .ok (.invokevirtual 164, 3) := by decide +kernel
theorem dX9_readAct_163 : decode cX9_readAct 163 = .ok (.ifCond .eq 27, 3) := by decide +kernel
theorem dX9_readAct_166 : decode cX9_readAct 166 = .ok (.aload_n 0, 1) := by decide +kernel
theorem dX9_readAct_167 : decode cX9_readAct 167 = .ok (.iconst 0, 1) := by decide +kernel
theorem dX9_readAct_168 : decode cX9_readAct 168 = .ok (.iconst 1, 1) := by decide +kernel
theorem dX9_readAct_169 : decode cX9_readAct 169 = .ok (.bipush 99, 2) := by decide +kernel
theorem dX9_readAct_171 : decode cX9_readAct 171 = .ok (.invokevirtual 167, 3) := by decide +kernel
theorem dX9_readAct_174 : decode cX9_readAct 174 = .ok (.ifCond .eq 16, 3) := by decide +kernel
theorem dX9_readAct_177 : decode cX9_readAct 177 = .ok (.aload_n 0, 1) := by decide +kernel
theorem dX9_readAct_178 : decode cX9_readAct 178 = .ok (.bipush 59, 2) := by decide +kernel
theorem dX9_readAct_180 : decode cX9_readAct 180 = .ok (.invokevirtual 164, 3) := by decide +kernel
theorem dX9_readAct_183 : decode cX9_readAct 183 = .ok (.ifCond .eq 7, 3) := by decide +kernel
theorem dX9_readAct_186 : decode cX9_readAct 186 = .ok (.iconst 1, 1) := by decide +kernel
theorem dX9_readAct_187 : decode cX9_readAct 187 = .ok (.goto 4, 3) := by decide +kernel
theorem dX9_readAct_190 : decode cX9_readAct 190 = .ok (.iconst 0, 1) := by decide +kernel
theorem dX9_readAct_191 : decode cX9_readAct 191 = .ok (.ireturn, 1) := by decide +kernel
theorem dX9_isGood_0 : decode cX9_isGood 0 = .ok (.aload_n 0, 1) := by decide +kernel
theorem dX9_isGood_1 : decode cX9_isGood 1 = .ok (.iconst 0, 1) := by decide +kernel
theorem dX9_isGood_2 : decode cX9_isGood 2 = .ok (.putfield 158, 3) := by decide +kernel
theorem dX9_isGood_5 : decode cX9_isGood 5 = .ok (.iconst 1, 1) := by decide +kernel
theorem dX9_isGood_6 : decode cX9_isGood 6 = .ok (.istore_n 1, 1) := by decide +kernel
theorem dX9_isGood_7 : decode cX9_isGood 7 = .ok (.iload_n 1, 1) := by decide +kernel
theorem dX9_isGood_8 : decode cX9_isGood 8 = .ok (.ifCond .eq 22, 3) := by decide +kernel
theorem dX9_isGood_11 : decode cX9_isGood 11 = .ok (.aload_n 0, 1) := by decide +kernel
theorem dX9_isGood_12 : decode cX9_isGood 12 = .ok (.getfield 158, 3) := by decide +kernel
theorem dX9_isGood_15 : decode cX9_isGood 15 = .ok (.aload_n 0, 1) := by decide +kernel
theorem dX9_isGood_16 : decode cX9_isGood 16 = .ok (.getfield 155, 3) := by decide +kernel
theorem dX9_isGood_19 : decode cX9_isGood 19 = .ok (.if_icmp .ge 11, 3) := by decide +kernel
theorem dX9_isGood_22 : decode cX9_isGood 22 = .ok (.aload_n 0, 1) := by decide +kernel
theorem dX9_isGood_23 : decode cX9_isGood 23 = .ok (.invokevirtual 170, 3) := by decide +kernel
theorem dX9_isGood_26 : decode cX9_isGood 26 = .ok (.istore_n 1, 1) := by decide +kernel
theorem dX9_isGood_27 : decode cX9_isGood 27 = .ok (.goto (-20), 3) := by decide +kernel
theorem dX9_isGood_30 : decode cX9_isGood 30 = .ok (.iload_n 1, 1) := by decide +kernel
theorem dX9_isGood_31 : decode cX9_isGood 31 = .ok (.ireturn, 1) := by decide +kernel
theorem dX9_faultPosition_0 : decode cX9_faultPosition 0 = .ok (.aload_n 0, 1) := by decide +kernel
theorem dX9_faultPosition_1 : decode cX9_faultPosition 1 = .ok (.invokevirtual 174, 3) := by decide +kernel
theorem dX9_faultPosition_4 : decode cX9_faultPosition 4 = .ok (.ifCond .eq 8, 3) := by decide +kernel
theorem dX9_faultPosition_7 : decode cX9_faultPosition 7 = .ok (.bipush (-6), 2) := by decide +kernel
theorem dX9_faultPosition_9 : decode cX9_faultPosition 9 = .ok (.goto 7, 3) := by decide +kernel
theorem dX9_faultPosition_12 : decode cX9_faultPosition 12 = .ok (.aload_n 0, 1) := by decide +kernel
theorem dX9_faultPosition_13 : decode cX9_faultPosition 13 = .ok (.getfield 158, 3) := by decide +kernel
theorem dX9_faultPosition_16 : decode cX9_faultPosition 16 = .ok (.ireturn, 1) := by decide +kernel
theorem dX9_doAct_0 : decode cX9_doAct 0 = .ok (.aload_n 0, 1) := by decide +kernel
theorem dX9_doAct_1 : decode cX9_doAct 1 = .ok (.getfield 161, 3) := by decide +kernel
theorem dX9_doAct_4 : decode cX9_doAct 4 = .ok (.bipush 116, 2) := by decide +kernel
theorem dX9_doAct_6 : decode cX9_doAct 6 = .ok (.if_icmp .ne 35, 3) := by decide +kernel
theorem dX9_doAct_9 : decode cX9_doAct 9 = .ok (.aload_n 0, 1) := by decide +kernel
theorem dX9_doAct_10 : decode cX9_doAct 10 = .ok (.aload_n 0, 1) := by decide +kernel
theorem dX9_doAct_11 : decode cX9_doAct 11 = .ok (.getfield 35, 3) := by decide +kernel
theorem dX9_doAct_14 : decode cX9_doAct 14 = .ok (.iconst 0, 1) := by decide +kernel
theorem dX9_doAct_15 : decode cX9_doAct 15 = .ok (.iaload, 1) := by decide +kernel
theorem dX9_doAct_16 : decode cX9_doAct 16 = .ok (.aload_n 0, 1) := by decide +kernel
theorem dX9_doAct_17 : decode cX9_doAct 17 = .ok (.getfield 35, 3) := by decide +kernel
theorem dX9_doAct_20 : decode cX9_doAct 20 = .ok (.iconst 1, 1) := by decide +kernel
theorem dX9_doAct_21 : decode cX9_doAct 21 = .ok (.iaload, 1) := by decide +kernel
theorem dX9_doAct_22 : decode cX9_doAct 22 = .ok (.aload_n 0, 1) := by decide +kernel
theorem dX9_doAct_23 : decode cX9_doAct 23 = .ok (.getfield 35, 3) := by decide +kernel
theorem dX9_doAct_26 : decode cX9_doAct 26 = .ok (.iconst 2, 1) := by decide +kernel
theorem dX9_doAct_27 : decode cX9_doAct 27 = .ok (.iaload, 1) := by decide +kernel
theorem dX9_doAct_28 : decode cX9_doAct 28 = .ok (.aload_n 0, 1) := by decide +kernel
theorem dX9_doAct_29 : decode cX9_doAct 29 = .ok (.getfield 35, 3) := by decide +kernel
theorem dX9_doAct_32 : decode cX9_doAct 32 = .ok (.iconst 3, 1) := by decide +kernel
theorem dX9_doAct_33 : decode cX9_doAct 33 = .ok (.iaload, 1) := by decide +kernel
theorem dX9_doAct_34 : decode cX9_doAct 34 = .ok (.iconst 0, 1) := by decide +kernel
theorem dX9_doAct_35 : decode cX9_doAct 35 = .ok (.invokevirtual 112, 3) := by decide +kernel
theorem dX9_doAct_38 : decode cX9_doAct 38 = .ok (.goto 37, 3) := by decide +kernel
theorem dX9_doAct_41 : decode cX9_doAct 41 = .ok (.aload_n 0, 1) := by decide +kernel
theorem dX9_doAct_42 : decode cX9_doAct 42 = .ok (.getfield 161, 3) := by decide +kernel
theorem dX9_doAct_45 : decode cX9_doAct 45 = .ok (.bipush 97, 2) := by decide +kernel
theorem dX9_doAct_47 : decode cX9_doAct 47 = .ok (.if_icmp .ne 17, 3) := by decide +kernel
theorem dX9_doAct_50 : decode cX9_doAct 50 = .ok (.aload_n 0, 1) := by decide +kernel
theorem dX9_doAct_51 : decode cX9_doAct 51 = .ok (.aload_n 0, 1) := by decide +kernel
theorem dX9_doAct_52 : decode cX9_doAct 52 = .ok (.getfield 35, 3) := by decide +kernel
theorem dX9_doAct_55 : decode cX9_doAct 55 = .ok (.iconst 0, 1) := by decide +kernel
theorem dX9_doAct_56 : decode cX9_doAct 56 = .ok (.iaload, 1) := by decide +kernel
theorem dX9_doAct_57 : decode cX9_doAct 57 = .ok (.iconst 0, 1) := by decide +kernel
theorem dX9_doAct_58 : decode cX9_doAct 58 = .ok (.invokevirtual 148, 3) := by decide +kernel
theorem dX9_doAct_61 : decode cX9_doAct 61 = .ok (.goto 14, 3) := by decide +kernel
theorem dX9_doAct_64 : decode cX9_doAct 64 = .ok (.aload_n 0, 1) := by decide +kernel
theorem dX9_doAct_65 : decode cX9_doAct 65 = .ok (.aload_n 0, 1) := by decide +kernel
theorem dX9_doAct_66 : decode cX9_doAct 66 = .ok (.getfield 35, 3) := by decide +kernel
theorem dX9_doAct_69 : decode cX9_doAct 69 = .ok (.iconst 0, 1) := by decide +kernel
theorem dX9_doAct_70 : decode cX9_doAct 70 = .ok (.iaload, 1) := by decide +kernel
theorem dX9_doAct_71 : decode cX9_doAct 71 = .ok (.iconst 0, 1) := by decide +kernel
theorem dX9_doAct_72 : decode cX9_doAct 72 = .ok (.invokevirtual 152, 3) := by decide +kernel
theorem dX9_doAct_75 : decode cX9_doAct 75 = .ok (.ireturn, 1) := by decide +kernel
theorem dX9_run_0 : decode cX9_run 0 = .ok (.aload_n 0, 1) := by decide +kernel
theorem dX9_run_1 : decode cX9_run 1 = .ok (.invokevirtual 174, 3) := by decide +kernel
theorem dX9_run_4 : decode cX9_run 4 = .ok (.ifCond .ne 6, 3) := by decide +kernel
theorem dX9_run_7 : decode cX9_run 7 = .ok (.bipush (-3), 2) := by decide +kernel
theorem dX9_run_9 : decode cX9_run 9 = .ok (.ireturn, 1) := by decide +kernel
theorem dX9_run_10 : decode cX9_run 10 = .ok (.aload_n 0, 1) := by decide +kernel
theorem dX9_run_11 : decode cX9_run 11 = .ok (.invokevirtual 54, 3) := by decide +kernel
theorem dX9_run_14 : decode cX9_run 14 = .ok (.aload_n 0, 1) := by decide +kernel
theorem dX9_run_15 : decode cX9_run 15 = .ok (.iconst 0, 1) := by decide +kernel
theorem dX9_run_16 : decode cX9_run 16 = .ok (.putfield 158, 3) := by decide +kernel
theorem dX9_run_19 : decode cX9_run 19 = .ok (.iconst 0, 1) := by decide +kernel
theorem dX9_run_20 : decode cX9_run 20 = .ok (.istore_n 1, 1) := by decide +kernel
theorem dX9_run_21 : decode cX9_run 21 = .ok (.iconst 1, 1) := by decide +kernel
theorem dX9_run_22 : decode cX9_run 22 = .ok (.istore_n 2, 1) := by decide +kernel
theorem dX9_run_23 : decode cX9_run 23 = .ok (.iload_n 2, 1) := by decide +kernel
theorem dX9_run_24 : decode cX9_run 24 = .ok (.ifCond .eq 47, 3) := by decide +kernel
theorem dX9_run_27 : decode cX9_run 27 = .ok (.aload_n 0, 1) := by decide +kernel
theorem dX9_run_28 : decode cX9_run 28 = .ok (.getfield 158, 3) := by decide +kernel
theorem dX9_run_31 : decode cX9_run 31 = .ok (.aload_n 0, 1) := by decide +kernel
theorem dX9_run_32 : decode cX9_run 32 = .ok (.getfield 155, 3) := by decide +kernel
theorem dX9_run_35 : decode cX9_run 35 = .ok (.if_icmp .ge 36, 3) := by decide +kernel
theorem dX9_run_38 : decode cX9_run 38 = .ok (.aload_n 0, 1) := by decide +kernel
theorem dX9_run_39 : decode cX9_run 39 = .ok (.invokevirtual 170, 3) := by decide +kernel
theorem dX9_run_42 : decode cX9_run 42 = .ok (.pop, 1) := by decide +kernel
theorem dX9_run_43 : decode cX9_run 43 = .ok (.aload_n 0, 1) := by decide +kernel
theorem dX9_run_44 : decode cX9_run 44 = .ok (.invokevirtual 177, 3) := by decide +kernel
theorem dX9_run_47 : decode cX9_run 47 = .ok (.ifCond .lt 7, 3) := by decide +kernel
theorem dX9_run_50 : decode cX9_run 50 = .ok (.iconst 1, 1) := by decide +kernel
theorem dX9_run_51 : decode cX9_run 51 = .ok (.goto 4, 3) := by decide +kernel
theorem dX9_run_54 : decode cX9_run 54 = .ok (.iconst 0, 1) := by decide +kernel
theorem dX9_run_55 : decode cX9_run 55 = .ok (.istore_n 2, 1) := by decide +kernel
theorem dX9_run_56 : decode cX9_run 56 = .ok (.iload_n 1, 1) := by decide +kernel
theorem dX9_run_57 : decode cX9_run 57 = .ok (.iload_n 2, 1) := by decide +kernel
theorem dX9_run_58 : decode cX9_run 58 = .ok (.ifCond .eq 7, 3) := by decide +kernel
theorem dX9_run_61 : decode cX9_run 61 = .ok (.iconst 1, 1) := by decide +kernel
theorem dX9_run_62 : decode cX9_run 62 = .ok (.goto 4, 3) := by decide +kernel
theorem dX9_run_65 : decode cX9_run 65 = .ok (.iconst 0, 1) := by decide +kernel
theorem dX9_run_66 : decode cX9_run 66 = .ok (.iadd, 1) := by decide +kernel
theorem dX9_run_67 : decode cX9_run 67 = .ok (.istore_n 1, 1) := by decide +kernel
theorem dX9_run_68 : decode cX9_run 68 = .ok (.goto (-45), 3) := by decide +kernel
theorem dX9_run_71 : decode cX9_run 71 = .ok (.iload_n 1, 1) := by decide +kernel
theorem dX9_run_72 : decode cX9_run 72 = .ok (.ireturn, 1) := by decide +kernel
theorem dX9_undo_0 : decode cX9_undo 0 = .ok (.aload_n 0, 1) := by decide +kernel
theorem dX9_undo_1 : decode cX9_undo 1 = .ok (.getfield 38, 3) := by decide +kernel
theorem dX9_undo_4 : decode cX9_undo 4 = .ok (.ifCond .ne 6, 3) := by decide +kernel
theorem dX9_undo_7 : decode cX9_undo 7 = .ok (.bipush (-3), 2) := by decide +kernel
theorem dX9_undo_9 : decode cX9_undo 9 = .ok (.ireturn, 1) := by decide +kernel
theorem dX9_undo_10 : decode cX9_undo 10 = .ok (.aload_n 0, 1) := by decide +kernel
theorem dX9_undo_11 : decode cX9_undo 11 = .ok (.dup, 1) := by decide +kernel
theorem dX9_undo_12 : decode cX9_undo 12 = .ok (.getfield 38, 3) := by decide +kernel
theorem dX9_undo_15 : decode cX9_undo 15 = .ok (.iconst 1, 1) := by decide +kernel
theorem dX9_undo_16 : decode cX9_undo 16 = .ok (.isub, 1) := by decide +kernel
theorem dX9_undo_17 : decode cX9_undo 17 = .ok (.putfield 38, 3) := by decide +kernel
theorem dX9_undo_20 : decode cX9_undo 20 = .ok (.iconst 0, 1) := by decide +kernel
theorem dX9_undo_21 : decode cX9_undo 21 = .ok (.istore_n 1, 1) := by decide +kernel
theorem dX9_undo_22 : decode cX9_undo 22 = .ok (.iload_n 1, 1) := by decide +kernel
theorem dX9_undo_23 : decode cX9_undo 23 = .ok (.sipush 916, 3) := by decide +kernel
theorem dX9_undo_26 : decode cX9_undo 26 = .ok (.if_icmp .ge 30, 3) := by decide +kernel
theorem dX9_undo_29 : decode cX9_undo 29 = .ok (.aload_n 0, 1) := by decide +kernel
theorem dX9_undo_30 : decode cX9_undo 30 = .ok (.getfield 7, 3) := by decide +kernel
theorem dX9_undo_33 : decode cX9_undo 33 = .ok (.iload_n 1, 1) := by decide +kernel
theorem dX9_undo_34 : decode cX9_undo 34 = .ok (.aload_n 0, 1) := by decide +kernel
theorem dX9_undo_35 : decode cX9_undo 35 = .ok (.getfield 13, 3) := by decide +kernel
theorem dX9_undo_38 : decode cX9_undo 38 = .ok (.sipush 916, 3) := by decide +kernel
theorem dX9_undo_41 : decode cX9_undo 41 = .ok (.aload_n 0, 1) := by decide +kernel
theorem dX9_undo_42 : decode cX9_undo 42 = .ok (.getfield 38, 3) := by decide +kernel
theorem dX9_undo_45 : decode cX9_undo 45 = .ok (.imul, 1) := by decide +kernel
theorem dX9_undo_46 : decode cX9_undo 46 = .ok (.iload_n 1, 1) := by decide +kernel
theorem dX9_undo_47 : decode cX9_undo 47 = .ok (.iadd, 1) := by decide +kernel
theorem dX9_undo_48 : decode cX9_undo 48 = .ok (.iaload, 1) := by decide +kernel
theorem dX9_undo_49 : decode cX9_undo 49 = .ok (.iastore, 1) := by decide +kernel
theorem dX9_undo_50 : decode cX9_undo 50 = .ok (.iinc 1 1, 3) := by decide +kernel
theorem dX9_undo_53 : decode cX9_undo 53 = .ok (.goto (-31), 3) := by decide +kernel
theorem dX9_undo_56 : decode cX9_undo 56 = .ok (.aload_n 0, 1) := by decide +kernel
theorem dX9_undo_57 : decode cX9_undo 57 = .ok (.getfield 38, 3) := by decide +kernel
theorem dX9_undo_60 : decode cX9_undo 60 = .ok (.ireturn, 1) := by decide +kernel
theorem dX9_save_0 : decode cX9_save 0 = .ok (.iload_n 1, 1) := by decide +kernel
theorem dX9_save_1 : decode cX9_save 1 = .ok (.iconst 0, 1) := by decide +kernel
theorem dX9_save_2 : decode cX9_save 2 = .ok (.iconst 1, 1) := by decide +kernel
theorem dX9_save_3 : decode cX9_save 3 = .ok (.invokestatic 42, 3) := by decide +kernel
theorem dX9_save_6 : decode cX9_save 6 = .ok (.ifCond .ne 5, 3) := by decide +kernel
theorem dX9_save_9 : decode cX9_save 9 = .ok (.iconst (-1), 1) := by decide +kernel
theorem dX9_save_10 : decode cX9_save 10 = .ok (.ireturn, 1) := by decide +kernel
theorem dX9_save_11 : decode cX9_save 11 = .ok (.iconst 0, 1) := by decide +kernel
theorem dX9_save_12 : decode cX9_save 12 = .ok (.istore_n 2, 1) := by decide +kernel
theorem dX9_save_13 : decode cX9_save 13 = .ok (.iload_n 2, 1) := by decide +kernel
theorem dX9_save_14 : decode cX9_save 14 = .ok (.sipush 916, 3) := by decide +kernel
theorem dX9_save_17 : decode cX9_save 17 = .ok (.if_icmp .ge 27, 3) := by decide +kernel
theorem dX9_save_20 : decode cX9_save 20 = .ok (.aload_n 0, 1) := by decide +kernel
theorem dX9_save_21 : decode cX9_save 21 = .ok (.getfield 16, 3) := by decide +kernel
theorem dX9_save_24 : decode cX9_save 24 = .ok (.sipush 916, 3) := by decide +kernel
theorem dX9_save_27 : decode cX9_save 27 = .ok (.iload_n 1, 1) := by decide +kernel
theorem dX9_save_28 : decode cX9_save 28 = .ok (.imul, 1) := by decide +kernel
theorem dX9_save_29 : decode cX9_save 29 = .ok (.iload_n 2, 1) := by decide +kernel
theorem dX9_save_30 : decode cX9_save 30 = .ok (.iadd, 1) := by decide +kernel
theorem dX9_save_31 : decode cX9_save 31 = .ok (.aload_n 0, 1) := by decide +kernel
theorem dX9_save_32 : decode cX9_save 32 = .ok (.getfield 7, 3) := by decide +kernel
theorem dX9_save_35 : decode cX9_save 35 = .ok (.iload_n 2, 1) := by decide +kernel
theorem dX9_save_36 : decode cX9_save 36 = .ok (.iaload, 1) := by decide +kernel
theorem dX9_save_37 : decode cX9_save 37 = .ok (.iastore, 1) := by decide +kernel
theorem dX9_save_38 : decode cX9_save 38 = .ok (.iinc 2 1, 3) := by decide +kernel
theorem dX9_save_41 : decode cX9_save 41 = .ok (.goto (-28), 3) := by decide +kernel
theorem dX9_save_44 : decode cX9_save 44 = .ok (.aload_n 0, 1) := by decide +kernel
theorem dX9_save_45 : decode cX9_save 45 = .ok (.getfield 19, 3) := by decide +kernel
theorem dX9_save_48 : decode cX9_save 48 = .ok (.iload_n 1, 1) := by decide +kernel
theorem dX9_save_49 : decode cX9_save 49 = .ok (.iconst 1, 1) := by decide +kernel
theorem dX9_save_50 : decode cX9_save 50 = .ok (.bastore, 1) := by decide +kernel
theorem dX9_save_51 : decode cX9_save 51 = .ok (.aload_n 0, 1) := by decide +kernel
theorem dX9_save_52 : decode cX9_save 52 = .ok (.getfield 7, 3) := by decide +kernel
theorem dX9_save_55 : decode cX9_save 55 = .ok (.iconst 0, 1) := by decide +kernel
theorem dX9_save_56 : decode cX9_save 56 = .ok (.iaload, 1) := by decide +kernel
theorem dX9_save_57 : decode cX9_save 57 = .ok (.ireturn, 1) := by decide +kernel
theorem dX9_restore_0 : decode cX9_restore 0 = .ok (.iload_n 1, 1) := by decide +kernel
theorem dX9_restore_1 : decode cX9_restore 1 = .ok (.iconst 0, 1) := by decide +kernel
theorem dX9_restore_2 : decode cX9_restore 2 = .ok (.iconst 1, 1) := by decide +kernel
theorem dX9_restore_3 : decode cX9_restore 3 = .ok (.invokestatic 42, 3) := by decide +kernel
theorem dX9_restore_6 : decode cX9_restore 6 = .ok (.ifCond .ne 5, 3) := by decide +kernel
theorem dX9_restore_9 : decode cX9_restore 9 = .ok (.iconst (-1), 1) := by decide +kernel
theorem dX9_restore_10 : decode cX9_restore 10 = .ok (.ireturn, 1) := by decide +kernel
theorem dX9_restore_11 : decode cX9_restore 11 = .ok (.aload_n 0, 1) := by decide +kernel
theorem dX9_restore_12 : decode cX9_restore 12 = .ok (.getfield 19, 3) := by decide +kernel
theorem dX9_restore_15 : decode cX9_restore 15 = .ok (.iload_n 1, 1) := by decide +kernel
theorem dX9_restore_16 : decode cX9_restore 16 = .ok (.baload, 1) := by decide +kernel
theorem dX9_restore_17 : decode cX9_restore 17 = .ok (.ifCond .ne 6, 3) := by decide +kernel
theorem dX9_restore_20 : decode cX9_restore 20 = .ok (.bipush (-3), 2) := by decide +kernel
theorem dX9_restore_22 : decode cX9_restore 22 = .ok (.ireturn, 1) := by decide +kernel
theorem dX9_restore_23 : decode cX9_restore 23 = .ok (.aload_n 0, 1) := by decide +kernel
theorem dX9_restore_24 : decode cX9_restore 24 = .ok (.invokevirtual 54, 3) := by decide +kernel
theorem dX9_restore_27 : decode cX9_restore 27 = .ok (.iconst 0, 1) := by decide +kernel
theorem dX9_restore_28 : decode cX9_restore 28 = .ok (.istore_n 2, 1) := by decide +kernel
theorem dX9_restore_29 : decode cX9_restore 29 = .ok (.iload_n 2, 1) := by decide +kernel
theorem dX9_restore_30 : decode cX9_restore 30 = .ok (.sipush 916, 3) := by decide +kernel
theorem dX9_restore_33 : decode cX9_restore 33 = .ok (.if_icmp .ge 27, 3) := by decide +kernel
theorem dX9_restore_36 : decode cX9_restore 36 = .ok (.aload_n 0, 1) := by decide +kernel
theorem dX9_restore_37 : decode cX9_restore 37 = .ok (.getfield 7, 3) := by decide +kernel
theorem dX9_restore_40 : decode cX9_restore 40 = .ok (.iload_n 2, 1) := by decide +kernel
theorem dX9_restore_41 : decode cX9_restore 41 = .ok (.aload_n 0, 1) := by decide +kernel
theorem dX9_restore_42 : decode cX9_restore 42 = .ok (.getfield 16, 3) := by decide +kernel
theorem dX9_restore_45 : decode cX9_restore 45 = .ok (.sipush 916, 3) := by decide +kernel
theorem dX9_restore_48 : decode cX9_restore 48 = .ok (.iload_n 1, 1) := by decide +kernel
theorem dX9_restore_49 : decode cX9_restore 49 = .ok (.imul, 1) := by decide +kernel
theorem dX9_restore_50 : decode cX9_restore 50 = .ok (.iload_n 2, 1) := by decide +kernel
theorem dX9_restore_51 : decode cX9_restore 51 = .ok (.iadd, 1) := by decide +kernel
theorem dX9_restore_52 : decode cX9_restore 52 = .ok (.iaload, 1) := by decide +kernel
theorem dX9_restore_53 : decode cX9_restore 53 = .ok (.iastore, 1) := by decide +kernel
theorem dX9_restore_54 : decode cX9_restore 54 = .ok (.iinc 2 1, 3) := by decide +kernel
theorem dX9_restore_57 : decode cX9_restore 57 = .ok (.goto (-28), 3) := by decide +kernel
theorem dX9_restore_60 : decode cX9_restore 60 = .ok (.aload_n 0, 1) := by decide +kernel
theorem dX9_restore_61 : decode cX9_restore 61 = .ok (.getfield 7, 3) := by decide +kernel
theorem dX9_restore_64 : decode cX9_restore 64 = .ok (.iconst 0, 1) := by decide +kernel
theorem dX9_restore_65 : decode cX9_restore 65 = .ok (.iaload, 1) := by decide +kernel
theorem dX9_restore_66 : decode cX9_restore 66 = .ok (.ireturn, 1) := by decide +kernel
theorem dX9_carrier_0 : decode cX9_carrier 0 = .ok (.aload_n 0, 1) := by decide +kernel
theorem dX9_carrier_1 : decode cX9_carrier 1 = .ok (.iconst 1, 1) := by decide +kernel
theorem dX9_carrier_2 : decode cX9_carrier 2 = .ok (.iload_n 1, 1) := by decide +kernel
theorem dX9_carrier_3 : decode cX9_carrier 3 = .ok (.invokevirtual 64, 3) := by decide +kernel
theorem dX9_carrier_6 : decode cX9_carrier 6 = .ok (.ifCond .ne 5, 3) := by decide +kernel
theorem dX9_carrier_9 : decode cX9_carrier 9 = .ok (.iconst (-1), 1) := by decide +kernel
theorem dX9_carrier_10 : decode cX9_carrier 10 = .ok (.ireturn, 1) := by decide +kernel
theorem dX9_carrier_11 : decode cX9_carrier 11 = .ok (.iload_n 2, 1) := by decide +kernel
theorem dX9_carrier_12 : decode cX9_carrier 12 = .ok (.iconst 0, 1) := by decide +kernel
theorem dX9_carrier_13 : decode cX9_carrier 13 = .ok (.bipush 6, 2) := by decide +kernel
theorem dX9_carrier_15 : decode cX9_carrier 15 = .ok (.invokestatic 42, 3) := by decide +kernel
theorem dX9_carrier_18 : decode cX9_carrier 18 = .ok (.ifCond .ne 6, 3) := by decide +kernel
theorem dX9_carrier_21 : decode cX9_carrier 21 = .ok (.bipush (-2), 2) := by decide +kernel
theorem dX9_carrier_23 : decode cX9_carrier 23 = .ok (.ireturn, 1) := by decide +kernel
theorem dX9_carrier_24 : decode cX9_carrier 24 = .ok (.iconst 0, 1) := by decide +kernel
theorem dX9_carrier_25 : decode cX9_carrier 25 = .ok (.istore_n 3, 1) := by decide +kernel
theorem dX9_carrier_26 : decode cX9_carrier 26 = .ok (.iconst 0, 1) := by decide +kernel
theorem dX9_carrier_27 : decode cX9_carrier 27 = .ok (.istore 4, 2) := by decide +kernel
theorem dX9_carrier_29 : decode cX9_carrier 29 = .ok (.iload 4, 2) := by decide +kernel
theorem dX9_carrier_31 : decode cX9_carrier 31 = .ok (.aload_n 0, 1) := by decide +kernel
theorem dX9_carrier_32 : decode cX9_carrier 32 = .ok (.getfield 7, 3) := by decide +kernel
theorem dX9_carrier_35 : decode cX9_carrier 35 = .ok (.iconst 3, 1) := by decide +kernel
theorem dX9_carrier_36 : decode cX9_carrier 36 = .ok (.iaload, 1) := by decide +kernel
theorem dX9_carrier_37 : decode cX9_carrier 37 = .ok (.if_icmp .ge 33, 3) := by decide +kernel
theorem dX9_carrier_40 : decode cX9_carrier 40 = .ok (.iload_n 3, 1) := by decide +kernel
theorem dX9_carrier_41 : decode cX9_carrier 41 = .ok (.aload_n 0, 1) := by decide +kernel
theorem dX9_carrier_42 : decode cX9_carrier 42 = .ok (.getfield 7, 3) := by decide +kernel
theorem dX9_carrier_45 : decode cX9_carrier 45 = .ok (.bipush 84, 2) := by decide +kernel
theorem dX9_carrier_47 : decode cX9_carrier 47 = .ok (.iconst 5, 1) := by decide +kernel
theorem dX9_carrier_48 : decode cX9_carrier 48 = .ok (.iload 4, 2) := by decide +kernel
theorem dX9_carrier_50 : decode cX9_carrier 50 = .ok (.imul, 1) := by decide +kernel
theorem dX9_carrier_51 : decode cX9_carrier 51 = .ok (.iadd, 1) := by decide +kernel
theorem dX9_carrier_52 : decode cX9_carrier 52 = .ok (.iaload, 1) := by decide +kernel
theorem dX9_carrier_53 : decode cX9_carrier 53 = .ok (.iload_n 1, 1) := by decide +kernel
theorem dX9_carrier_54 : decode cX9_carrier 54 = .ok (.if_icmp .ne 7, 3) := by decide +kernel
theorem dX9_carrier_57 : decode cX9_carrier 57 = .ok (.iconst 1, 1) := by decide +kernel
theorem dX9_carrier_58 : decode cX9_carrier 58 = .ok (.goto 4, 3) := by decide +kernel
theorem dX9_carrier_61 : decode cX9_carrier 61 = .ok (.iconst 0, 1) := by decide +kernel
theorem dX9_carrier_62 : decode cX9_carrier 62 = .ok (.iadd, 1) := by decide +kernel
theorem dX9_carrier_63 : decode cX9_carrier 63 = .ok (.istore_n 3, 1) := by decide +kernel
theorem dX9_carrier_64 : decode cX9_carrier 64 = .ok (.iinc 4 1, 3) := by decide +kernel
theorem dX9_carrier_67 : decode cX9_carrier 67 = .ok (.goto (-38), 3) := by decide +kernel
theorem dX9_carrier_70 : decode cX9_carrier 70 = .ok (.iload_n 2, 1) := by decide +kernel
theorem dX9_carrier_71 : decode cX9_carrier 71 = .ok (.iconst 5, 1) := by decide +kernel
theorem dX9_carrier_72 : decode cX9_carrier 72 = .ok (.if_icmp .ge 19, 3) := by decide +kernel
theorem dX9_carrier_75 : decode cX9_carrier 75 = .ok (.aload_n 0, 1) := by decide +kernel
theorem dX9_carrier_76 : decode cX9_carrier 76 = .ok (.getfield 7, 3) := by decide +kernel
theorem dX9_carrier_79 : decode cX9_carrier 79 = .ok (.bipush 24, 2) := by decide +kernel
theorem dX9_carrier_81 : decode cX9_carrier 81 = .ok (.iconst 5, 1) := by decide +kernel
theorem dX9_carrier_82 : decode cX9_carrier 82 = .ok (.iload_n 1, 1) := by decide +kernel
theorem dX9_carrier_83 : decode cX9_carrier 83 = .ok (.imul, 1) := by decide +kernel
theorem dX9_carrier_84 : decode cX9_carrier 84 = .ok (.iadd, 1) := by decide +kernel
theorem dX9_carrier_85 : decode cX9_carrier 85 = .ok (.iload_n 2, 1) := by decide +kernel
theorem dX9_carrier_86 : decode cX9_carrier 86 = .ok (.iadd, 1) := by decide +kernel
theorem dX9_carrier_87 : decode cX9_carrier 87 = .ok (.iaload, 1) := by decide +kernel
theorem dX9_carrier_88 : decode cX9_carrier 88 = .ok (.goto 17, 3) := by decide +kernel
theorem dX9_carrier_91 : decode cX9_carrier 91 = .ok (.iload_n 2, 1) := by decide +kernel
theorem dX9_carrier_92 : decode cX9_carrier 92 = .ok (.iconst 5, 1) := by decide +kernel
theorem dX9_carrier_93 : decode cX9_carrier 93 = .ok (.if_icmp .ne 11, 3) := by decide +kernel
theorem dX9_carrier_96 : decode cX9_carrier 96 = .ok (.aload_n 0, 1) := by decide +kernel
theorem dX9_carrier_97 : decode cX9_carrier 97 = .ok (.iload_n 1, 1) := by decide +kernel
theorem dX9_carrier_98 : decode cX9_carrier 98 = .ok (.invokevirtual 86, 3) := by decide +kernel
theorem dX9_carrier_101 : decode cX9_carrier 101 = .ok (.goto 4, 3) := by decide +kernel
theorem dX9_carrier_104 : decode cX9_carrier 104 = .ok (.iload_n 3, 1) := by decide +kernel
theorem dX9_carrier_105 : decode cX9_carrier 105 = .ok (.ireturn, 1) := by decide +kernel
theorem dX9_machine_0 : decode cX9_machine 0 = .ok (.aload_n 0, 1) := by decide +kernel
theorem dX9_machine_1 : decode cX9_machine 1 = .ok (.iconst 2, 1) := by decide +kernel
theorem dX9_machine_2 : decode cX9_machine 2 = .ok (.iload_n 1, 1) := by decide +kernel
theorem dX9_machine_3 : decode cX9_machine 3 = .ok (.invokevirtual 64, 3) := by decide +kernel
theorem dX9_machine_6 : decode cX9_machine 6 = .ok (.ifCond .ne 5, 3) := by decide +kernel
theorem dX9_machine_9 : decode cX9_machine 9 = .ok (.iconst (-1), 1) := by decide +kernel
theorem dX9_machine_10 : decode cX9_machine 10 = .ok (.ireturn, 1) := by decide +kernel
theorem dX9_machine_11 : decode cX9_machine 11 = .ok (.iload_n 2, 1) := by decide +kernel
theorem dX9_machine_12 : decode cX9_machine 12 = .ok (.iconst 0, 1) := by decide +kernel
theorem dX9_machine_13 : decode cX9_machine 13 = .ok (.iconst 5, 1) := by decide +kernel
theorem dX9_machine_14 : decode cX9_machine 14 = .ok (.invokestatic 42, 3) := by decide +kernel
theorem dX9_machine_17 : decode cX9_machine 17 = .ok (.ifCond .ne 6, 3) := by decide +kernel
theorem dX9_machine_20 : decode cX9_machine 20 = .ok (.bipush (-2), 2) := by decide +kernel
theorem dX9_machine_22 : decode cX9_machine 22 = .ok (.ireturn, 1) := by decide +kernel
theorem dX9_machine_23 : decode cX9_machine 23 = .ok (.iconst 0, 1) := by decide +kernel
theorem dX9_machine_24 : decode cX9_machine 24 = .ok (.istore_n 3, 1) := by decide +kernel
theorem dX9_machine_25 : decode cX9_machine 25 = .ok (.iconst 0, 1) := by decide +kernel
theorem dX9_machine_26 : decode cX9_machine 26 = .ok (.istore 4, 2) := by decide +kernel
theorem dX9_machine_28 : decode cX9_machine 28 = .ok (.iload 4, 2) := by decide +kernel
theorem dX9_machine_30 : decode cX9_machine 30 = .ok (.aload_n 0, 1) := by decide +kernel
theorem dX9_machine_31 : decode cX9_machine 31 = .ok (.getfield 7, 3) := by decide +kernel
theorem dX9_machine_34 : decode cX9_machine 34 = .ok (.iconst 4, 1) := by decide +kernel
theorem dX9_machine_35 : decode cX9_machine 35 = .ok (.iaload, 1) := by decide +kernel
theorem dX9_machine_36 : decode cX9_machine 36 = .ok (.if_icmp .ge 37, 3) := by decide +kernel
theorem dX9_machine_39 : decode cX9_machine 39 = .ok (.iload_n 3, 1) := by decide +kernel
theorem dX9_machine_40 : decode cX9_machine 40 = .ok (.aload_n 0, 1) := by decide +kernel
theorem dX9_machine_41 : decode cX9_machine 41 = .ok (.getfield 7, 3) := by decide +kernel
theorem dX9_machine_44 : decode cX9_machine 44 = .ok (.sipush 420, 3) := by decide +kernel
theorem dX9_machine_47 : decode cX9_machine 47 = .ok (.bipush 9, 2) := by decide +kernel
theorem dX9_machine_49 : decode cX9_machine 49 = .ok (.iload 4, 2) := by decide +kernel
theorem dX9_machine_51 : decode cX9_machine 51 = .ok (.imul, 1) := by decide +kernel
theorem dX9_machine_52 : decode cX9_machine 52 = .ok (.iadd, 1) := by decide +kernel
theorem dX9_machine_53 : decode cX9_machine 53 = .ok (.iconst 1, 1) := by decide +kernel
theorem dX9_machine_54 : decode cX9_machine 54 = .ok (.iadd, 1) := by decide +kernel
theorem dX9_machine_55 : decode cX9_machine 55 = .ok (.iaload, 1) := by decide +kernel
theorem dX9_machine_56 : decode cX9_machine 56 = .ok (.iload_n 1, 1) := by decide +kernel
theorem dX9_machine_57 : decode cX9_machine 57 = .ok (.if_icmp .ne 7, 3) := by decide +kernel
theorem dX9_machine_60 : decode cX9_machine 60 = .ok (.iconst 1, 1) := by decide +kernel
theorem dX9_machine_61 : decode cX9_machine 61 = .ok (.goto 4, 3) := by decide +kernel
theorem dX9_machine_64 : decode cX9_machine 64 = .ok (.iconst 0, 1) := by decide +kernel
theorem dX9_machine_65 : decode cX9_machine 65 = .ok (.iadd, 1) := by decide +kernel
theorem dX9_machine_66 : decode cX9_machine 66 = .ok (.istore_n 3, 1) := by decide +kernel
theorem dX9_machine_67 : decode cX9_machine 67 = .ok (.iinc 4 1, 3) := by decide +kernel
theorem dX9_machine_70 : decode cX9_machine 70 = .ok (.goto (-42), 3) := by decide +kernel
theorem dX9_machine_73 : decode cX9_machine 73 = .ok (.iload_n 2, 1) := by decide +kernel
theorem dX9_machine_74 : decode cX9_machine 74 = .ok (.iconst 5, 1) := by decide +kernel
theorem dX9_machine_75 : decode cX9_machine 75 = .ok (.if_icmp .ge 19, 3) := by decide +kernel
theorem dX9_machine_78 : decode cX9_machine 78 = .ok (.aload_n 0, 1) := by decide +kernel
theorem dX9_machine_79 : decode cX9_machine 79 = .ok (.getfield 7, 3) := by decide +kernel
theorem dX9_machine_82 : decode cX9_machine 82 = .ok (.bipush 64, 2) := by decide +kernel
theorem dX9_machine_84 : decode cX9_machine 84 = .ok (.iconst 5, 1) := by decide +kernel
theorem dX9_machine_85 : decode cX9_machine 85 = .ok (.iload_n 1, 1) := by decide +kernel
theorem dX9_machine_86 : decode cX9_machine 86 = .ok (.imul, 1) := by decide +kernel
theorem dX9_machine_87 : decode cX9_machine 87 = .ok (.iadd, 1) := by decide +kernel
theorem dX9_machine_88 : decode cX9_machine 88 = .ok (.iload_n 2, 1) := by decide +kernel
theorem dX9_machine_89 : decode cX9_machine 89 = .ok (.iadd, 1) := by decide +kernel
theorem dX9_machine_90 : decode cX9_machine 90 = .ok (.iaload, 1) := by decide +kernel
theorem dX9_machine_91 : decode cX9_machine 91 = .ok (.goto 4, 3) := by decide +kernel
theorem dX9_machine_94 : decode cX9_machine 94 = .ok (.iload_n 3, 1) := by decide +kernel
theorem dX9_machine_95 : decode cX9_machine 95 = .ok (.ireturn, 1) := by decide +kernel
theorem dX9_recording_0 : decode cX9_recording 0 = .ok (.aload_n 0, 1) := by decide +kernel
theorem dX9_recording_1 : decode cX9_recording 1 = .ok (.iconst 3, 1) := by decide +kernel
theorem dX9_recording_2 : decode cX9_recording 2 = .ok (.iload_n 1, 1) := by decide +kernel
theorem dX9_recording_3 : decode cX9_recording 3 = .ok (.invokevirtual 64, 3) := by decide +kernel
theorem dX9_recording_6 : decode cX9_recording 6 = .ok (.ifCond .ne 5, 3) := by decide +kernel
theorem dX9_recording_9 : decode cX9_recording 9 = .ok (.iconst (-1), 1) := by decide +kernel
theorem dX9_recording_10 : decode cX9_recording 10 = .ok (.ireturn, 1) := by decide +kernel
theorem dX9_recording_11 : decode cX9_recording 11 = .ok (.iload_n 2, 1) := by decide +kernel
theorem dX9_recording_12 : decode cX9_recording 12 = .ok (.iconst 0, 1) := by decide +kernel
theorem dX9_recording_13 : decode cX9_recording 13 = .ok (.iconst 5, 1) := by decide +kernel
theorem dX9_recording_14 : decode cX9_recording 14 = .ok (.invokestatic 42, 3) := by decide +kernel
theorem dX9_recording_17 : decode cX9_recording 17 = .ok (.ifCond .ne 6, 3) := by decide +kernel
theorem dX9_recording_20 : decode cX9_recording 20 = .ok (.bipush (-2), 2) := by decide +kernel
theorem dX9_recording_22 : decode cX9_recording 22 = .ok (.ireturn, 1) := by decide +kernel
theorem dX9_recording_23 : decode cX9_recording 23 = .ok (.bipush 84, 2) := by decide +kernel
theorem dX9_recording_25 : decode cX9_recording 25 = .ok (.iconst 5, 1) := by decide +kernel
theorem dX9_recording_26 : decode cX9_recording 26 = .ok (.iload_n 1, 1) := by decide +kernel
theorem dX9_recording_27 : decode cX9_recording 27 = .ok (.imul, 1) := by decide +kernel
theorem dX9_recording_28 : decode cX9_recording 28 = .ok (.iadd, 1) := by decide +kernel
theorem dX9_recording_29 : decode cX9_recording 29 = .ok (.istore_n 3, 1) := by decide +kernel
theorem dX9_recording_30 : decode cX9_recording 30 = .ok (.iload_n 2, 1) := by decide +kernel
theorem dX9_recording_31 : decode cX9_recording 31 = .ok (.iconst 4, 1) := by decide +kernel
theorem dX9_recording_32 : decode cX9_recording 32 = .ok (.if_icmp .ge 14, 3) := by decide +kernel
theorem dX9_recording_35 : decode cX9_recording 35 = .ok (.aload_n 0, 1) := by decide +kernel
theorem dX9_recording_36 : decode cX9_recording 36 = .ok (.getfield 7, 3) := by decide +kernel
theorem dX9_recording_39 : decode cX9_recording 39 = .ok (.iload_n 3, 1) := by decide +kernel
theorem dX9_recording_40 : decode cX9_recording 40 = .ok (.iload_n 2, 1) := by decide +kernel
theorem dX9_recording_41 : decode cX9_recording 41 = .ok (.iadd, 1) := by decide +kernel
theorem dX9_recording_42 : decode cX9_recording 42 = .ok (.iaload, 1) := by decide +kernel
theorem dX9_recording_43 : decode cX9_recording 43 = .ok (.goto 48, 3) := by decide +kernel
theorem dX9_recording_46 : decode cX9_recording 46 = .ok (.iload_n 2, 1) := by decide +kernel
theorem dX9_recording_47 : decode cX9_recording 47 = .ok (.iconst 4, 1) := by decide +kernel
theorem dX9_recording_48 : decode cX9_recording 48 = .ok (.if_icmp .ne 35, 3) := by decide +kernel
theorem dX9_recording_51 : decode cX9_recording 51 = .ok (.aload_n 0, 1) := by decide +kernel
theorem dX9_recording_52 : decode cX9_recording 52 = .ok (.getfield 7, 3) := by decide +kernel
theorem dX9_recording_55 : decode cX9_recording 55 = .ok (.bipush 24, 2) := by decide +kernel
theorem dX9_recording_57 : decode cX9_recording 57 = .ok (.iconst 5, 1) := by decide +kernel
theorem dX9_recording_58 : decode cX9_recording 58 = .ok (.aload_n 0, 1) := by decide +kernel
theorem dX9_recording_59 : decode cX9_recording 59 = .ok (.getfield 7, 3) := by decide +kernel
theorem dX9_recording_62 : decode cX9_recording 62 = .ok (.iload_n 3, 1) := by decide +kernel
theorem dX9_recording_63 : decode cX9_recording 63 = .ok (.iaload, 1) := by decide +kernel
theorem dX9_recording_64 : decode cX9_recording 64 = .ok (.imul, 1) := by decide +kernel
theorem dX9_recording_65 : decode cX9_recording 65 = .ok (.iadd, 1) := by decide +kernel
theorem dX9_recording_66 : decode cX9_recording 66 = .ok (.iconst 2, 1) := by decide +kernel
theorem dX9_recording_67 : decode cX9_recording 67 = .ok (.iadd, 1) := by decide +kernel
theorem dX9_recording_68 : decode cX9_recording 68 = .ok (.iaload, 1) := by decide +kernel
theorem dX9_recording_69 : decode cX9_recording 69 = .ok (.aload_n 0, 1) := by decide +kernel
theorem dX9_recording_70 : decode cX9_recording 70 = .ok (.getfield 7, 3) := by decide +kernel
theorem dX9_recording_73 : decode cX9_recording 73 = .ok (.iload_n 3, 1) := by decide +kernel
theorem dX9_recording_74 : decode cX9_recording 74 = .ok (.iconst 1, 1) := by decide +kernel
theorem dX9_recording_75 : decode cX9_recording 75 = .ok (.iadd, 1) := by decide +kernel
theorem dX9_recording_76 : decode cX9_recording 76 = .ok (.iaload, 1) := by decide +kernel
theorem dX9_recording_77 : decode cX9_recording 77 = .ok (.invokestatic 67, 3) := by decide +kernel
theorem dX9_recording_80 : decode cX9_recording 80 = .ok (.goto 11, 3) := by decide +kernel
theorem dX9_recording_83 : decode cX9_recording 83 = .ok (.aload_n 0, 1) := by decide +kernel
theorem dX9_recording_84 : decode cX9_recording 84 = .ok (.getfield 7, 3) := by decide +kernel
theorem dX9_recording_87 : decode cX9_recording 87 = .ok (.iload_n 3, 1) := by decide +kernel
theorem dX9_recording_88 : decode cX9_recording 88 = .ok (.iconst 4, 1) := by decide +kernel
theorem dX9_recording_89 : decode cX9_recording 89 = .ok (.iadd, 1) := by decide +kernel
theorem dX9_recording_90 : decode cX9_recording 90 = .ok (.iaload, 1) := by decide +kernel
theorem dX9_recording_91 : decode cX9_recording 91 = .ok (.ireturn, 1) := by decide +kernel
theorem dX9_part_0 : decode cX9_part 0 = .ok (.aload_n 0, 1) := by decide +kernel
theorem dX9_part_1 : decode cX9_part 1 = .ok (.iconst 3, 1) := by decide +kernel
theorem dX9_part_2 : decode cX9_part 2 = .ok (.iload_n 1, 1) := by decide +kernel
theorem dX9_part_3 : decode cX9_part 3 = .ok (.invokevirtual 64, 3) := by decide +kernel
theorem dX9_part_6 : decode cX9_part 6 = .ok (.ifCond .eq 26, 3) := by decide +kernel
theorem dX9_part_9 : decode cX9_part 9 = .ok (.iload_n 2, 1) := by decide +kernel
theorem dX9_part_10 : decode cX9_part 10 = .ok (.iconst 0, 1) := by decide +kernel
theorem dX9_part_11 : decode cX9_part 11 = .ok (.aload_n 0, 1) := by decide +kernel
theorem dX9_part_12 : decode cX9_part 12 = .ok (.getfield 7, 3) := by decide +kernel
theorem dX9_part_15 : decode cX9_part 15 = .ok (.bipush 84, 2) := by decide +kernel
theorem dX9_part_17 : decode cX9_part 17 = .ok (.iconst 5, 1) := by decide +kernel
theorem dX9_part_18 : decode cX9_part 18 = .ok (.iload_n 1, 1) := by decide +kernel
theorem dX9_part_19 : decode cX9_part 19 = .ok (.imul, 1) := by decide +kernel
theorem dX9_part_20 : decode cX9_part 20 = .ok (.iadd, 1) := by decide +kernel
theorem dX9_part_21 : decode cX9_part 21 = .ok (.iconst 4, 1) := by decide +kernel
theorem dX9_part_22 : decode cX9_part 22 = .ok (.iadd, 1) := by decide +kernel
theorem dX9_part_23 : decode cX9_part 23 = .ok (.iaload, 1) := by decide +kernel
theorem dX9_part_24 : decode cX9_part 24 = .ok (.iconst 1, 1) := by decide +kernel
theorem dX9_part_25 : decode cX9_part 25 = .ok (.isub, 1) := by decide +kernel
theorem dX9_part_26 : decode cX9_part 26 = .ok (.invokestatic 42, 3) := by decide +kernel
theorem dX9_part_29 : decode cX9_part 29 = .ok (.ifCond .ne 5, 3) := by decide +kernel
theorem dX9_part_32 : decode cX9_part 32 = .ok (.iconst (-1), 1) := by decide +kernel
theorem dX9_part_33 : decode cX9_part 33 = .ok (.ireturn, 1) := by decide +kernel
theorem dX9_part_34 : decode cX9_part 34 = .ok (.iload_n 3, 1) := by decide +kernel
theorem dX9_part_35 : decode cX9_part 35 = .ok (.iconst 0, 1) := by decide +kernel
theorem dX9_part_36 : decode cX9_part 36 = .ok (.iconst 4, 1) := by decide +kernel
theorem dX9_part_37 : decode cX9_part 37 = .ok (.invokestatic 42, 3) := by decide +kernel
theorem dX9_part_40 : decode cX9_part 40 = .ok (.ifCond .ne 6, 3) := by decide +kernel
theorem dX9_part_43 : decode cX9_part 43 = .ok (.bipush (-2), 2) := by decide +kernel
theorem dX9_part_45 : decode cX9_part 45 = .ok (.ireturn, 1) := by decide +kernel
theorem dX9_part_46 : decode cX9_part 46 = .ok (.sipush 164, 3) := by decide +kernel
theorem dX9_part_49 : decode cX9_part 49 = .ok (.bipush 16, 2) := by decide +kernel
theorem dX9_part_51 : decode cX9_part 51 = .ok (.iload_n 1, 1) := by decide +kernel
theorem dX9_part_52 : decode cX9_part 52 = .ok (.imul, 1) := by decide +kernel
theorem dX9_part_53 : decode cX9_part 53 = .ok (.iadd, 1) := by decide +kernel
theorem dX9_part_54 : decode cX9_part 54 = .ok (.iconst 4, 1) := by decide +kernel
theorem dX9_part_55 : decode cX9_part 55 = .ok (.iload_n 2, 1) := by decide +kernel
theorem dX9_part_56 : decode cX9_part 56 = .ok (.imul, 1) := by decide +kernel
theorem dX9_part_57 : decode cX9_part 57 = .ok (.iadd, 1) := by decide +kernel
theorem dX9_part_58 : decode cX9_part 58 = .ok (.istore 4, 2) := by decide +kernel
theorem dX9_part_60 : decode cX9_part 60 = .ok (.iload_n 3, 1) := by decide +kernel
theorem dX9_part_61 : decode cX9_part 61 = .ok (.iconst 4, 1) := by decide +kernel
theorem dX9_part_62 : decode cX9_part 62 = .ok (.if_icmp .ge 15, 3) := by decide +kernel
theorem dX9_part_65 : decode cX9_part 65 = .ok (.aload_n 0, 1) := by decide +kernel
theorem dX9_part_66 : decode cX9_part 66 = .ok (.getfield 7, 3) := by decide +kernel
theorem dX9_part_69 : decode cX9_part 69 = .ok (.iload 4, 2) := by decide +kernel
theorem dX9_part_71 : decode cX9_part 71 = .ok (.iload_n 3, 1) := by decide +kernel
theorem dX9_part_72 : decode cX9_part 72 = .ok (.iadd, 1) := by decide +kernel
theorem dX9_part_73 : decode cX9_part 73 = .ok (.iaload, 1) := by decide +kernel
theorem dX9_part_74 : decode cX9_part 74 = .ok (.goto 26, 3) := by decide +kernel
theorem dX9_part_77 : decode cX9_part 77 = .ok (.aload_n 0, 1) := by decide +kernel
theorem dX9_part_78 : decode cX9_part 78 = .ok (.getfield 7, 3) := by decide +kernel
theorem dX9_part_81 : decode cX9_part 81 = .ok (.iconst 0, 1) := by decide +kernel
theorem dX9_part_82 : decode cX9_part 82 = .ok (.iaload, 1) := by decide +kernel
theorem dX9_part_83 : decode cX9_part 83 = .ok (.aload_n 0, 1) := by decide +kernel
theorem dX9_part_84 : decode cX9_part 84 = .ok (.getfield 7, 3) := by decide +kernel
theorem dX9_part_87 : decode cX9_part 87 = .ok (.iload 4, 2) := by decide +kernel
theorem dX9_part_89 : decode cX9_part 89 = .ok (.iconst 3, 1) := by decide +kernel
theorem dX9_part_90 : decode cX9_part 90 = .ok (.iadd, 1) := by decide +kernel
theorem dX9_part_91 : decode cX9_part 91 = .ok (.iaload, 1) := by decide +kernel
theorem dX9_part_92 : decode cX9_part 92 = .ok (.if_icmp .ge 7, 3) := by decide +kernel
theorem dX9_part_95 : decode cX9_part 95 = .ok (.iconst 1, 1) := by decide +kernel
theorem dX9_part_96 : decode cX9_part 96 = .ok (.goto 4, 3) := by decide +kernel
theorem dX9_part_99 : decode cX9_part 99 = .ok (.iconst 0, 1) := by decide +kernel
theorem dX9_part_100 : decode cX9_part 100 = .ok (.ireturn, 1) := by decide +kernel
theorem dX9_pass_0 : decode cX9_pass 0 = .ok (.aload_n 0, 1) := by decide +kernel
theorem dX9_pass_1 : decode cX9_pass 1 = .ok (.iconst 4, 1) := by decide +kernel
theorem dX9_pass_2 : decode cX9_pass 2 = .ok (.iload_n 1, 1) := by decide +kernel
theorem dX9_pass_3 : decode cX9_pass 3 = .ok (.invokevirtual 64, 3) := by decide +kernel
theorem dX9_pass_6 : decode cX9_pass 6 = .ok (.ifCond .ne 5, 3) := by decide +kernel
theorem dX9_pass_9 : decode cX9_pass 9 = .ok (.iconst (-1), 1) := by decide +kernel
theorem dX9_pass_10 : decode cX9_pass 10 = .ok (.ireturn, 1) := by decide +kernel
theorem dX9_pass_11 : decode cX9_pass 11 = .ok (.iload_n 2, 1) := by decide +kernel
theorem dX9_pass_12 : decode cX9_pass 12 = .ok (.iconst 0, 1) := by decide +kernel
theorem dX9_pass_13 : decode cX9_pass 13 = .ok (.bipush 6, 2) := by decide +kernel
theorem dX9_pass_15 : decode cX9_pass 15 = .ok (.invokestatic 42, 3) := by decide +kernel
theorem dX9_pass_18 : decode cX9_pass 18 = .ok (.ifCond .ne 6, 3) := by decide +kernel
theorem dX9_pass_21 : decode cX9_pass 21 = .ok (.bipush (-2), 2) := by decide +kernel
theorem dX9_pass_23 : decode cX9_pass 23 = .ok (.ireturn, 1) := by decide +kernel
theorem dX9_pass_24 : decode cX9_pass 24 = .ok (.sipush 420, 3) := by decide +kernel
theorem dX9_pass_27 : decode cX9_pass 27 = .ok (.bipush 9, 2) := by decide +kernel
theorem dX9_pass_29 : decode cX9_pass 29 = .ok (.iload_n 1, 1) := by decide +kernel
theorem dX9_pass_30 : decode cX9_pass 30 = .ok (.imul, 1) := by decide +kernel
theorem dX9_pass_31 : decode cX9_pass 31 = .ok (.iadd, 1) := by decide +kernel
theorem dX9_pass_32 : decode cX9_pass 32 = .ok (.istore_n 3, 1) := by decide +kernel
theorem dX9_pass_33 : decode cX9_pass 33 = .ok (.aload_n 0, 1) := by decide +kernel
theorem dX9_pass_34 : decode cX9_pass 34 = .ok (.getfield 7, 3) := by decide +kernel
theorem dX9_pass_37 : decode cX9_pass 37 = .ok (.bipush 24, 2) := by decide +kernel
theorem dX9_pass_39 : decode cX9_pass 39 = .ok (.iconst 5, 1) := by decide +kernel
theorem dX9_pass_40 : decode cX9_pass 40 = .ok (.aload_n 0, 1) := by decide +kernel
theorem dX9_pass_41 : decode cX9_pass 41 = .ok (.getfield 7, 3) := by decide +kernel
theorem dX9_pass_44 : decode cX9_pass 44 = .ok (.iload_n 3, 1) := by decide +kernel
theorem dX9_pass_45 : decode cX9_pass 45 = .ok (.iaload, 1) := by decide +kernel
theorem dX9_pass_46 : decode cX9_pass 46 = .ok (.imul, 1) := by decide +kernel
theorem dX9_pass_47 : decode cX9_pass 47 = .ok (.iadd, 1) := by decide +kernel
theorem dX9_pass_48 : decode cX9_pass 48 = .ok (.iconst 2, 1) := by decide +kernel
theorem dX9_pass_49 : decode cX9_pass 49 = .ok (.iadd, 1) := by decide +kernel
theorem dX9_pass_50 : decode cX9_pass 50 = .ok (.iaload, 1) := by decide +kernel
theorem dX9_pass_51 : decode cX9_pass 51 = .ok (.istore 4, 2) := by decide +kernel
theorem dX9_pass_53 : decode cX9_pass 53 = .ok (.iconst 0, 1) := by decide +kernel
theorem dX9_pass_54 : decode cX9_pass 54 = .ok (.istore 5, 2) := by decide +kernel
theorem dX9_pass_56 : decode cX9_pass 56 = .ok (.iconst 0, 1) := by decide +kernel
theorem dX9_pass_57 : decode cX9_pass 57 = .ok (.istore 6, 2) := by decide +kernel
theorem dX9_pass_59 : decode cX9_pass 59 = .ok (.iconst 0, 1) := by decide +kernel
theorem dX9_pass_60 : decode cX9_pass 60 = .ok (.istore 7, 2) := by decide +kernel
theorem dX9_pass_62 : decode cX9_pass 62 = .ok (.iload 7, 2) := by decide +kernel
theorem dX9_pass_64 : decode cX9_pass 64 = .ok (.iconst 4, 1) := by decide +kernel
theorem dX9_pass_65 : decode cX9_pass 65 = .ok (.if_icmp .ge 81, 3) := by decide +kernel
theorem dX9_pass_68 : decode cX9_pass 68 = .ok (.iload 5, 2) := by decide +kernel
theorem dX9_pass_70 : decode cX9_pass 70 = .ok (.aload_n 0, 1) := by decide +kernel
theorem dX9_pass_71 : decode cX9_pass 71 = .ok (.getfield 7, 3) := by decide +kernel
theorem dX9_pass_74 : decode cX9_pass 74 = .ok (.iload_n 3, 1) := by decide +kernel
theorem dX9_pass_75 : decode cX9_pass 75 = .ok (.iconst 5, 1) := by decide +kernel
theorem dX9_pass_76 : decode cX9_pass 76 = .ok (.iadd, 1) := by decide +kernel
theorem dX9_pass_77 : decode cX9_pass 77 = .ok (.iload 7, 2) := by decide +kernel
theorem dX9_pass_79 : decode cX9_pass 79 = .ok (.iadd, 1) := by decide +kernel
theorem dX9_pass_80 : decode cX9_pass 80 = .ok (.iaload, 1) := by decide +kernel
theorem dX9_pass_81 : decode cX9_pass 81 = .ok (.ifCond .le 10, 3) := by decide +kernel
theorem dX9_pass_84 : decode cX9_pass 84 = .ok (.iconst 1, 1) := by decide +kernel
theorem dX9_pass_85 : decode cX9_pass 85 = .ok (.iload 7, 2) := by decide +kernel
theorem dX9_pass_87 : decode cX9_pass 87 = .ok (.ishl, 1) := by decide +kernel
theorem dX9_pass_88 : decode cX9_pass 88 = .ok (.goto 4, 3) := by decide +kernel
theorem dX9_pass_91 : decode cX9_pass 91 = .ok (.iconst 0, 1) := by decide +kernel
theorem dX9_pass_92 : decode cX9_pass 92 = .ok (.ior, 1) := by decide +kernel
theorem dX9_pass_93 : decode cX9_pass 93 = .ok (.istore 5, 2) := by decide +kernel
theorem dX9_pass_95 : decode cX9_pass 95 = .ok (.iload 6, 2) := by decide +kernel
theorem dX9_pass_97 : decode cX9_pass 97 = .ok (.aload_n 0, 1) := by decide +kernel
theorem dX9_pass_98 : decode cX9_pass 98 = .ok (.getfield 7, 3) := by decide +kernel
theorem dX9_pass_101 : decode cX9_pass 101 = .ok (.iload_n 3, 1) := by decide +kernel
theorem dX9_pass_102 : decode cX9_pass 102 = .ok (.iconst 5, 1) := by decide +kernel
theorem dX9_pass_103 : decode cX9_pass 103 = .ok (.iadd, 1) := by decide +kernel
theorem dX9_pass_104 : decode cX9_pass 104 = .ok (.iload 7, 2) := by decide +kernel
theorem dX9_pass_106 : decode cX9_pass 106 = .ok (.iadd, 1) := by decide +kernel
theorem dX9_pass_107 : decode cX9_pass 107 = .ok (.iaload, 1) := by decide +kernel
theorem dX9_pass_108 : decode cX9_pass 108 = .ok (.ifCond .le 28, 3) := by decide +kernel
theorem dX9_pass_111 : decode cX9_pass 111 = .ok (.iload 4, 2) := by decide +kernel
theorem dX9_pass_113 : decode cX9_pass 113 = .ok (.iload 7, 2) := by decide +kernel
theorem dX9_pass_115 : decode cX9_pass 115 = .ok (.invokestatic 61, 3) := by decide +kernel
theorem dX9_pass_118 : decode cX9_pass 118 = .ok (.aload_n 0, 1) := by decide +kernel
theorem dX9_pass_119 : decode cX9_pass 119 = .ok (.getfield 7, 3) := by decide +kernel
theorem dX9_pass_122 : decode cX9_pass 122 = .ok (.iload_n 3, 1) := by decide +kernel
theorem dX9_pass_123 : decode cX9_pass 123 = .ok (.iconst 3, 1) := by decide +kernel
theorem dX9_pass_124 : decode cX9_pass 124 = .ok (.iadd, 1) := by decide +kernel
theorem dX9_pass_125 : decode cX9_pass 125 = .ok (.iaload, 1) := by decide +kernel
theorem dX9_pass_126 : decode cX9_pass 126 = .ok (.if_icmp .eq 10, 3) := by decide +kernel
theorem dX9_pass_129 : decode cX9_pass 129 = .ok (.iconst 1, 1) := by decide +kernel
theorem dX9_pass_130 : decode cX9_pass 130 = .ok (.iload 7, 2) := by decide +kernel
theorem dX9_pass_132 : decode cX9_pass 132 = .ok (.ishl, 1) := by decide +kernel
theorem dX9_pass_133 : decode cX9_pass 133 = .ok (.goto 4, 3) := by decide +kernel
theorem dX9_pass_136 : decode cX9_pass 136 = .ok (.iconst 0, 1) := by decide +kernel
theorem dX9_pass_137 : decode cX9_pass 137 = .ok (.ior, 1) := by decide +kernel
theorem dX9_pass_138 : decode cX9_pass 138 = .ok (.istore 6, 2) := by decide +kernel
theorem dX9_pass_140 : decode cX9_pass 140 = .ok (.iinc 7 1, 3) := by decide +kernel
theorem dX9_pass_143 : decode cX9_pass 143 = .ok (.goto (-81), 3) := by decide +kernel
theorem dX9_pass_146 : decode cX9_pass 146 = .ok (.iload_n 2, 1) := by decide +kernel
theorem dX9_pass_147 : decode cX9_pass 147 = .ok (.iconst 5, 1) := by decide +kernel
theorem dX9_pass_148 : decode cX9_pass 148 = .ok (.if_icmp .ge 14, 3) := by decide +kernel
theorem dX9_pass_151 : decode cX9_pass 151 = .ok (.aload_n 0, 1) := by decide +kernel
theorem dX9_pass_152 : decode cX9_pass 152 = .ok (.getfield 7, 3) := by decide +kernel
theorem dX9_pass_155 : decode cX9_pass 155 = .ok (.iload_n 3, 1) := by decide +kernel
theorem dX9_pass_156 : decode cX9_pass 156 = .ok (.iload_n 2, 1) := by decide +kernel
theorem dX9_pass_157 : decode cX9_pass 157 = .ok (.iadd, 1) := by decide +kernel
theorem dX9_pass_158 : decode cX9_pass 158 = .ok (.iaload, 1) := by decide +kernel
theorem dX9_pass_159 : decode cX9_pass 159 = .ok (.goto 15, 3) := by decide +kernel
theorem dX9_pass_162 : decode cX9_pass 162 = .ok (.iload_n 2, 1) := by decide +kernel
theorem dX9_pass_163 : decode cX9_pass 163 = .ok (.iconst 5, 1) := by decide +kernel
theorem dX9_pass_164 : decode cX9_pass 164 = .ok (.if_icmp .ne 8, 3) := by decide +kernel
theorem dX9_pass_167 : decode cX9_pass 167 = .ok (.iload 5, 2) := by decide +kernel
theorem dX9_pass_169 : decode cX9_pass 169 = .ok (.goto 5, 3) := by decide +kernel
theorem dX9_pass_172 : decode cX9_pass 172 = .ok (.iload 6, 2) := by decide +kernel
theorem dX9_pass_174 : decode cX9_pass 174 = .ok (.ireturn, 1) := by decide +kernel
theorem dX9_captured_0 : decode cX9_captured 0 = .ok (.aload_n 0, 1) := by decide +kernel
theorem dX9_captured_1 : decode cX9_captured 1 = .ok (.iconst 4, 1) := by decide +kernel
theorem dX9_captured_2 : decode cX9_captured 2 = .ok (.iload_n 1, 1) := by decide +kernel
theorem dX9_captured_3 : decode cX9_captured 3 = .ok (.invokevirtual 64, 3) := by decide +kernel
theorem dX9_captured_6 : decode cX9_captured 6 = .ok (.ifCond .eq 41, 3) := by decide +kernel
theorem dX9_captured_9 : decode cX9_captured 9 = .ok (.iload_n 2, 1) := by decide +kernel
theorem dX9_captured_10 : decode cX9_captured 10 = .ok (.iconst 0, 1) := by decide +kernel
theorem dX9_captured_11 : decode cX9_captured 11 = .ok (.aload_n 0, 1) := by decide +kernel
theorem dX9_captured_12 : decode cX9_captured 12 = .ok (.getfield 7, 3) := by decide +kernel
theorem dX9_captured_15 : decode cX9_captured 15 = .ok (.bipush 24, 2) := by decide +kernel
theorem dX9_captured_17 : decode cX9_captured 17 = .ok (.iconst 5, 1) := by decide +kernel
theorem dX9_captured_18 : decode cX9_captured 18 = .ok (.aload_n 0, 1) := by decide +kernel
theorem dX9_captured_19 : decode cX9_captured 19 = .ok (.getfield 7, 3) := by decide +kernel
theorem dX9_captured_22 : decode cX9_captured 22 = .ok (.sipush 420, 3) := by decide +kernel
theorem dX9_captured_25 : decode cX9_captured 25 = .ok (.bipush 9, 2) := by decide +kernel
theorem dX9_captured_27 : decode cX9_captured 27 = .ok (.iload_n 1, 1) := by decide +kernel
theorem dX9_captured_28 : decode cX9_captured 28 = .ok (.imul, 1) := by decide +kernel
theorem dX9_captured_29 : decode cX9_captured 29 = .ok (.iadd, 1) := by decide +kernel
theorem dX9_captured_30 : decode cX9_captured 30 = .ok (.iaload, 1) := by decide +kernel
theorem dX9_captured_31 : decode cX9_captured 31 = .ok (.imul, 1) := by decide +kernel
theorem dX9_captured_32 : decode cX9_captured 32 = .ok (.iadd, 1) := by decide +kernel
theorem dX9_captured_33 : decode cX9_captured 33 = .ok (.iconst 2, 1) := by decide +kernel
theorem dX9_captured_34 : decode cX9_captured 34 = .ok (.iadd, 1) := by decide +kernel
theorem dX9_captured_35 : decode cX9_captured 35 = .ok (.iaload, 1) := by decide +kernel
theorem dX9_captured_36 : decode cX9_captured 36 = .ok (.invokestatic 57, 3) := by decide +kernel
theorem dX9_captured_39 : decode cX9_captured 39 = .ok (.iconst 1, 1) := by decide +kernel
theorem dX9_captured_40 : decode cX9_captured 40 = .ok (.isub, 1) := by decide +kernel
theorem dX9_captured_41 : decode cX9_captured 41 = .ok (.invokestatic 42, 3) := by decide +kernel
theorem dX9_captured_44 : decode cX9_captured 44 = .ok (.ifCond .ne 5, 3) := by decide +kernel
theorem dX9_captured_47 : decode cX9_captured 47 = .ok (.iconst (-1), 1) := by decide +kernel
theorem dX9_captured_48 : decode cX9_captured 48 = .ok (.ireturn, 1) := by decide +kernel
theorem dX9_captured_49 : decode cX9_captured 49 = .ok (.aload_n 0, 1) := by decide +kernel
theorem dX9_captured_50 : decode cX9_captured 50 = .ok (.getfield 7, 3) := by decide +kernel
theorem dX9_captured_53 : decode cX9_captured 53 = .ok (.sipush 420, 3) := by decide +kernel
theorem dX9_captured_56 : decode cX9_captured 56 = .ok (.bipush 9, 2) := by decide +kernel
theorem dX9_captured_58 : decode cX9_captured 58 = .ok (.iload_n 1, 1) := by decide +kernel
theorem dX9_captured_59 : decode cX9_captured 59 = .ok (.imul, 1) := by decide +kernel
theorem dX9_captured_60 : decode cX9_captured 60 = .ok (.iadd, 1) := by decide +kernel
theorem dX9_captured_61 : decode cX9_captured 61 = .ok (.iconst 5, 1) := by decide +kernel
theorem dX9_captured_62 : decode cX9_captured 62 = .ok (.iadd, 1) := by decide +kernel
theorem dX9_captured_63 : decode cX9_captured 63 = .ok (.iload_n 2, 1) := by decide +kernel
theorem dX9_captured_64 : decode cX9_captured 64 = .ok (.iadd, 1) := by decide +kernel
theorem dX9_captured_65 : decode cX9_captured 65 = .ok (.iaload, 1) := by decide +kernel
theorem dX9_captured_66 : decode cX9_captured 66 = .ok (.ireturn, 1) := by decide +kernel
theorem dX9_quality_0 : decode cX9_quality 0 = .ok (.aload_n 0, 1) := by decide +kernel
theorem dX9_quality_1 : decode cX9_quality 1 = .ok (.iconst 4, 1) := by decide +kernel
theorem dX9_quality_2 : decode cX9_quality 2 = .ok (.iload_n 1, 1) := by decide +kernel
theorem dX9_quality_3 : decode cX9_quality 3 = .ok (.invokevirtual 64, 3) := by decide +kernel
theorem dX9_quality_6 : decode cX9_quality 6 = .ok (.ifCond .eq 21, 3) := by decide +kernel
theorem dX9_quality_9 : decode cX9_quality 9 = .ok (.aload_n 0, 1) := by decide +kernel
theorem dX9_quality_10 : decode cX9_quality 10 = .ok (.iconst 3, 1) := by decide +kernel
theorem dX9_quality_11 : decode cX9_quality 11 = .ok (.iload_n 2, 1) := by decide +kernel
theorem dX9_quality_12 : decode cX9_quality 12 = .ok (.invokevirtual 64, 3) := by decide +kernel
theorem dX9_quality_15 : decode cX9_quality 15 = .ok (.ifCond .eq 12, 3) := by decide +kernel
theorem dX9_quality_18 : decode cX9_quality 18 = .ok (.aload_n 0, 1) := by decide +kernel
theorem dX9_quality_19 : decode cX9_quality 19 = .ok (.iload_n 1, 1) := by decide +kernel
theorem dX9_quality_20 : decode cX9_quality 20 = .ok (.iload_n 2, 1) := by decide +kernel
theorem dX9_quality_21 : decode cX9_quality 21 = .ok (.invokevirtual 120, 3) := by decide +kernel
theorem dX9_quality_24 : decode cX9_quality 24 = .ok (.goto 4, 3) := by decide +kernel
theorem dX9_quality_27 : decode cX9_quality 27 = .ok (.iconst (-1), 1) := by decide +kernel
theorem dX9_quality_28 : decode cX9_quality 28 = .ok (.ireturn, 1) := by decide +kernel
theorem dX9_bestPass_0 : decode cX9_bestPass 0 = .ok (.aload_n 0, 1) := by decide +kernel
theorem dX9_bestPass_1 : decode cX9_bestPass 1 = .ok (.iconst 3, 1) := by decide +kernel
theorem dX9_bestPass_2 : decode cX9_bestPass 2 = .ok (.iload_n 1, 1) := by decide +kernel
theorem dX9_bestPass_3 : decode cX9_bestPass 3 = .ok (.invokevirtual 64, 3) := by decide +kernel
theorem dX9_bestPass_6 : decode cX9_bestPass 6 = .ok (.ifCond .ne 5, 3) := by decide +kernel
theorem dX9_bestPass_9 : decode cX9_bestPass 9 = .ok (.iconst (-1), 1) := by decide +kernel
theorem dX9_bestPass_10 : decode cX9_bestPass 10 = .ok (.ireturn, 1) := by decide +kernel
theorem dX9_bestPass_11 : decode cX9_bestPass 11 = .ok (.aload_n 0, 1) := by decide +kernel
theorem dX9_bestPass_12 : decode cX9_bestPass 12 = .ok (.iload_n 1, 1) := by decide +kernel
theorem dX9_bestPass_13 : decode cX9_bestPass 13 = .ok (.invokevirtual 142, 3) := by decide +kernel
theorem dX9_bestPass_16 : decode cX9_bestPass 16 = .ok (.istore_n 2, 1) := by decide +kernel
theorem dX9_bestPass_17 : decode cX9_bestPass 17 = .ok (.iload_n 2, 1) := by decide +kernel
theorem dX9_bestPass_18 : decode cX9_bestPass 18 = .ok (.ifCond .ge 8, 3) := by decide +kernel
theorem dX9_bestPass_21 : decode cX9_bestPass 21 = .ok (.bipush (-6), 2) := by decide +kernel
theorem dX9_bestPass_23 : decode cX9_bestPass 23 = .ok (.goto 4, 3) := by decide +kernel
theorem dX9_bestPass_26 : decode cX9_bestPass 26 = .ok (.iload_n 2, 1) := by decide +kernel
theorem dX9_bestPass_27 : decode cX9_bestPass 27 = .ok (.ireturn, 1) := by decide +kernel
theorem dX9_permission_0 : decode cX9_permission 0 = .ok (.aload_n 0, 1) := by decide +kernel
theorem dX9_permission_1 : decode cX9_permission 1 = .ok (.iconst 5, 1) := by decide +kernel
theorem dX9_permission_2 : decode cX9_permission 2 = .ok (.iload_n 1, 1) := by decide +kernel
theorem dX9_permission_3 : decode cX9_permission 3 = .ok (.invokevirtual 64, 3) := by decide +kernel
theorem dX9_permission_6 : decode cX9_permission 6 = .ok (.ifCond .ne 5, 3) := by decide +kernel
theorem dX9_permission_9 : decode cX9_permission 9 = .ok (.iconst (-1), 1) := by decide +kernel
theorem dX9_permission_10 : decode cX9_permission 10 = .ok (.ireturn, 1) := by decide +kernel
theorem dX9_permission_11 : decode cX9_permission 11 = .ok (.iload_n 2, 1) := by decide +kernel
theorem dX9_permission_12 : decode cX9_permission 12 = .ok (.iconst 0, 1) := by decide +kernel
theorem dX9_permission_13 : decode cX9_permission 13 = .ok (.iconst 4, 1) := by decide +kernel
theorem dX9_permission_14 : decode cX9_permission 14 = .ok (.invokestatic 42, 3) := by decide +kernel
theorem dX9_permission_17 : decode cX9_permission 17 = .ok (.ifCond .eq 20, 3) := by decide +kernel
theorem dX9_permission_20 : decode cX9_permission 20 = .ok (.aload_n 0, 1) := by decide +kernel
theorem dX9_permission_21 : decode cX9_permission 21 = .ok (.getfield 7, 3) := by decide +kernel
theorem dX9_permission_24 : decode cX9_permission 24 = .ok (.sipush 636, 3) := by decide +kernel
theorem dX9_permission_27 : decode cX9_permission 27 = .ok (.iconst 5, 1) := by decide +kernel
theorem dX9_permission_28 : decode cX9_permission 28 = .ok (.iload_n 1, 1) := by decide +kernel
theorem dX9_permission_29 : decode cX9_permission 29 = .ok (.imul, 1) := by decide +kernel
theorem dX9_permission_30 : decode cX9_permission 30 = .ok (.iadd, 1) := by decide +kernel
theorem dX9_permission_31 : decode cX9_permission 31 = .ok (.iload_n 2, 1) := by decide +kernel
theorem dX9_permission_32 : decode cX9_permission 32 = .ok (.iadd, 1) := by decide +kernel
theorem dX9_permission_33 : decode cX9_permission 33 = .ok (.iaload, 1) := by decide +kernel
theorem dX9_permission_34 : decode cX9_permission 34 = .ok (.goto 5, 3) := by decide +kernel
theorem dX9_permission_37 : decode cX9_permission 37 = .ok (.bipush (-2), 2) := by decide +kernel
theorem dX9_permission_39 : decode cX9_permission 39 = .ok (.ireturn, 1) := by decide +kernel
theorem dX9_requested_0 : decode cX9_requested 0 = .ok (.aload_n 0, 1) := by decide +kernel
theorem dX9_requested_1 : decode cX9_requested 1 = .ok (.bipush 6, 2) := by decide +kernel
theorem dX9_requested_3 : decode cX9_requested 3 = .ok (.iload_n 1, 1) := by decide +kernel
theorem dX9_requested_4 : decode cX9_requested 4 = .ok (.invokevirtual 64, 3) := by decide +kernel
theorem dX9_requested_7 : decode cX9_requested 7 = .ok (.ifCond .ne 5, 3) := by decide +kernel
theorem dX9_requested_10 : decode cX9_requested 10 = .ok (.iconst (-1), 1) := by decide +kernel
theorem dX9_requested_11 : decode cX9_requested 11 = .ok (.ireturn, 1) := by decide +kernel
theorem dX9_requested_12 : decode cX9_requested 12 = .ok (.iload_n 2, 1) := by decide +kernel
theorem dX9_requested_13 : decode cX9_requested 13 = .ok (.iconst 0, 1) := by decide +kernel
theorem dX9_requested_14 : decode cX9_requested 14 = .ok (.bipush 9, 2) := by decide +kernel
theorem dX9_requested_16 : decode cX9_requested 16 = .ok (.invokestatic 42, 3) := by decide +kernel
theorem dX9_requested_19 : decode cX9_requested 19 = .ok (.ifCond .eq 21, 3) := by decide +kernel
theorem dX9_requested_22 : decode cX9_requested 22 = .ok (.aload_n 0, 1) := by decide +kernel
theorem dX9_requested_23 : decode cX9_requested 23 = .ok (.getfield 7, 3) := by decide +kernel
theorem dX9_requested_26 : decode cX9_requested 26 = .ok (.sipush 756, 3) := by decide +kernel
theorem dX9_requested_29 : decode cX9_requested 29 = .ok (.bipush 10, 2) := by decide +kernel
theorem dX9_requested_31 : decode cX9_requested 31 = .ok (.iload_n 1, 1) := by decide +kernel
theorem dX9_requested_32 : decode cX9_requested 32 = .ok (.imul, 1) := by decide +kernel
theorem dX9_requested_33 : decode cX9_requested 33 = .ok (.iadd, 1) := by decide +kernel
theorem dX9_requested_34 : decode cX9_requested 34 = .ok (.iload_n 2, 1) := by decide +kernel
theorem dX9_requested_35 : decode cX9_requested 35 = .ok (.iadd, 1) := by decide +kernel
theorem dX9_requested_36 : decode cX9_requested 36 = .ok (.iaload, 1) := by decide +kernel
theorem dX9_requested_37 : decode cX9_requested 37 = .ok (.goto 5, 3) := by decide +kernel
theorem dX9_requested_40 : decode cX9_requested 40 = .ok (.bipush (-2), 2) := by decide +kernel
theorem dX9_requested_42 : decode cX9_requested 42 = .ok (.ireturn, 1) := by decide +kernel
theorem dX9_errorOfExcerpt_0 : decode cX9_errorOfExcerpt 0 = .ok (.aload_n 0, 1) := by decide +kernel
theorem dX9_errorOfExcerpt_1 : decode cX9_errorOfExcerpt 1 = .ok (.iconst 3, 1) := by decide +kernel
theorem dX9_errorOfExcerpt_2 : decode cX9_errorOfExcerpt 2 = .ok (.iload_n 2, 1) := by decide +kernel
theorem dX9_errorOfExcerpt_3 : decode cX9_errorOfExcerpt 3 = .ok (.invokevirtual 64, 3) := by decide +kernel
theorem dX9_errorOfExcerpt_6 : decode cX9_errorOfExcerpt 6 = .ok (.ifCond .ne 5, 3) := by decide +kernel
theorem dX9_errorOfExcerpt_9 : decode cX9_errorOfExcerpt 9 = .ok (.iconst (-1), 1) := by decide +kernel
theorem dX9_errorOfExcerpt_10 : decode cX9_errorOfExcerpt 10 = .ok (.ireturn, 1) := by decide +kernel
theorem dX9_errorOfExcerpt_11 : decode cX9_errorOfExcerpt 11 = .ok (.iload_n 1, 1) := by decide +kernel
theorem dX9_errorOfExcerpt_12 : decode cX9_errorOfExcerpt 12 = .ok (.iconst 0, 1) := by decide +kernel
theorem dX9_errorOfExcerpt_13 : decode cX9_errorOfExcerpt 13 = .ok (.bipush 7, 2) := by decide +kernel
theorem dX9_errorOfExcerpt_15 : decode cX9_errorOfExcerpt 15 = .ok (.invokestatic 42, 3) := by decide +kernel
theorem dX9_errorOfExcerpt_18 : decode cX9_errorOfExcerpt 18 = .ok (.ifCond .eq 28, 3) := by decide +kernel
theorem dX9_errorOfExcerpt_21 : decode cX9_errorOfExcerpt 21 = .ok (.aload_n 0, 1) := by decide +kernel
theorem dX9_errorOfExcerpt_22 : decode cX9_errorOfExcerpt 22 = .ok (.iload_n 2, 1) := by decide +kernel
theorem dX9_errorOfExcerpt_23 : decode cX9_errorOfExcerpt 23 = .ok (.iload_n 3, 1) := by decide +kernel
theorem dX9_errorOfExcerpt_24 : decode cX9_errorOfExcerpt 24 = .ok (.iload 4, 2) := by decide +kernel
theorem dX9_errorOfExcerpt_26 : decode cX9_errorOfExcerpt 26 = .ok (.invokevirtual 70, 3) := by decide +kernel
theorem dX9_errorOfExcerpt_29 : decode cX9_errorOfExcerpt 29 = .ok (.ifCond .eq 17, 3) := by decide +kernel
theorem dX9_errorOfExcerpt_32 : decode cX9_errorOfExcerpt 32 = .ok (.iload 5, 2) := by decide +kernel
theorem dX9_errorOfExcerpt_34 : decode cX9_errorOfExcerpt 34 = .ok (.iconst 0, 1) := by decide +kernel
theorem dX9_errorOfExcerpt_35 : decode cX9_errorOfExcerpt 35 = .ok (.iconst 2, 1) := by decide +kernel
theorem dX9_errorOfExcerpt_36 : decode cX9_errorOfExcerpt 36 = .ok (.invokestatic 42, 3) := by decide +kernel
theorem dX9_errorOfExcerpt_39 : decode cX9_errorOfExcerpt 39 = .ok (.ifCond .eq 7, 3) := by decide +kernel
theorem dX9_errorOfExcerpt_42 : decode cX9_errorOfExcerpt 42 = .ok (.iconst 0, 1) := by decide +kernel
theorem dX9_errorOfExcerpt_43 : decode cX9_errorOfExcerpt 43 = .ok (.goto 5, 3) := by decide +kernel
theorem dX9_errorOfExcerpt_46 : decode cX9_errorOfExcerpt 46 = .ok (.bipush (-2), 2) := by decide +kernel
theorem dX9_errorOfExcerpt_48 : decode cX9_errorOfExcerpt 48 = .ok (.ireturn, 1) := by decide +kernel
theorem dX9_lacking_0 : decode cX9_lacking 0 = .ok (.aload_n 0, 1) := by decide +kernel
theorem dX9_lacking_1 : decode cX9_lacking 1 = .ok (.iload_n 1, 1) := by decide +kernel
theorem dX9_lacking_2 : decode cX9_lacking 2 = .ok (.iload_n 2, 1) := by decide +kernel
theorem dX9_lacking_3 : decode cX9_lacking 3 = .ok (.iload_n 3, 1) := by decide +kernel
theorem dX9_lacking_4 : decode cX9_lacking 4 = .ok (.iload 4, 2) := by decide +kernel
theorem dX9_lacking_6 : decode cX9_lacking 6 = .ok (.iload 5, 2) := by decide +kernel
theorem dX9_lacking_8 : decode cX9_lacking 8 = .ok (.invokevirtual 181, 3) := by decide +kernel
theorem dX9_lacking_11 : decode cX9_lacking 11 = .ok (.istore 6, 2) := by decide +kernel
theorem dX9_lacking_13 : decode cX9_lacking 13 = .ok (.iload 6, 2) := by decide +kernel
theorem dX9_lacking_15 : decode cX9_lacking 15 = .ok (.ifCond .ge 8, 3) := by decide +kernel
theorem dX9_lacking_18 : decode cX9_lacking 18 = .ok (.iload 6, 2) := by decide +kernel
theorem dX9_lacking_20 : decode cX9_lacking 20 = .ok (.goto 14, 3) := by decide +kernel
theorem dX9_lacking_23 : decode cX9_lacking 23 = .ok (.aload_n 0, 1) := by decide +kernel
theorem dX9_lacking_24 : decode cX9_lacking 24 = .ok (.iload_n 1, 1) := by decide +kernel
theorem dX9_lacking_25 : decode cX9_lacking 25 = .ok (.iload_n 2, 1) := by decide +kernel
theorem dX9_lacking_26 : decode cX9_lacking 26 = .ok (.iload_n 3, 1) := by decide +kernel
theorem dX9_lacking_27 : decode cX9_lacking 27 = .ok (.iload 4, 2) := by decide +kernel
theorem dX9_lacking_29 : decode cX9_lacking 29 = .ok (.iload 5, 2) := by decide +kernel
theorem dX9_lacking_31 : decode cX9_lacking 31 = .ok (.invokevirtual 139, 3) := by decide +kernel
theorem dX9_lacking_34 : decode cX9_lacking 34 = .ok (.ireturn, 1) := by decide +kernel
theorem dX9_fee_0 : decode cX9_fee 0 = .ok (.aload_n 0, 1) := by decide +kernel
theorem dX9_fee_1 : decode cX9_fee 1 = .ok (.iload_n 1, 1) := by decide +kernel
theorem dX9_fee_2 : decode cX9_fee 2 = .ok (.iload_n 2, 1) := by decide +kernel
theorem dX9_fee_3 : decode cX9_fee 3 = .ok (.iload_n 3, 1) := by decide +kernel
theorem dX9_fee_4 : decode cX9_fee 4 = .ok (.iload 4, 2) := by decide +kernel
theorem dX9_fee_6 : decode cX9_fee 6 = .ok (.iload 5, 2) := by decide +kernel
theorem dX9_fee_8 : decode cX9_fee 8 = .ok (.invokevirtual 181, 3) := by decide +kernel
theorem dX9_fee_11 : decode cX9_fee 11 = .ok (.istore 6, 2) := by decide +kernel
theorem dX9_fee_13 : decode cX9_fee 13 = .ok (.iload 6, 2) := by decide +kernel
theorem dX9_fee_15 : decode cX9_fee 15 = .ok (.ifCond .ge 8, 3) := by decide +kernel
theorem dX9_fee_18 : decode cX9_fee 18 = .ok (.iload 6, 2) := by decide +kernel
theorem dX9_fee_20 : decode cX9_fee 20 = .ok (.goto 14, 3) := by decide +kernel
theorem dX9_fee_23 : decode cX9_fee 23 = .ok (.aload_n 0, 1) := by decide +kernel
theorem dX9_fee_24 : decode cX9_fee 24 = .ok (.iload_n 1, 1) := by decide +kernel
theorem dX9_fee_25 : decode cX9_fee 25 = .ok (.iload_n 2, 1) := by decide +kernel
theorem dX9_fee_26 : decode cX9_fee 26 = .ok (.iload_n 3, 1) := by decide +kernel
theorem dX9_fee_27 : decode cX9_fee 27 = .ok (.iload 4, 2) := by decide +kernel
theorem dX9_fee_29 : decode cX9_fee 29 = .ok (.iload 5, 2) := by decide +kernel
theorem dX9_fee_31 : decode cX9_fee 31 = .ok (.invokevirtual 184, 3) := by decide +kernel
theorem dX9_fee_34 : decode cX9_fee 34 = .ok (.ireturn, 1) := by decide +kernel
theorem dX9_income_0 : decode cX9_income 0 = .ok (.iload_n 1, 1) := by decide +kernel
theorem dX9_income_1 : decode cX9_income 1 = .ok (.iconst 0, 1) := by decide +kernel
theorem dX9_income_2 : decode cX9_income 2 = .ok (.bipush 7, 2) := by decide +kernel
theorem dX9_income_4 : decode cX9_income 4 = .ok (.invokestatic 42, 3) := by decide +kernel
theorem dX9_income_7 : decode cX9_income 7 = .ok (.ifCond .eq 15, 3) := by decide +kernel
theorem dX9_income_10 : decode cX9_income 10 = .ok (.aload_n 0, 1) := by decide +kernel
theorem dX9_income_11 : decode cX9_income 11 = .ok (.getfield 7, 3) := by decide +kernel
theorem dX9_income_14 : decode cX9_income 14 = .ok (.bipush 8, 2) := by decide +kernel
theorem dX9_income_16 : decode cX9_income 16 = .ok (.iload_n 1, 1) := by decide +kernel
theorem dX9_income_17 : decode cX9_income 17 = .ok (.iadd, 1) := by decide +kernel
theorem dX9_income_18 : decode cX9_income 18 = .ok (.iaload, 1) := by decide +kernel
theorem dX9_income_19 : decode cX9_income 19 = .ok (.goto 5, 3) := by decide +kernel
theorem dX9_income_22 : decode cX9_income 22 = .ok (.bipush (-2), 2) := by decide +kernel
theorem dX9_income_24 : decode cX9_income 24 = .ok (.ireturn, 1) := by decide +kernel
theorem dX9_paid_0 : decode cX9_paid 0 = .ok (.iload_n 1, 1) := by decide +kernel
theorem dX9_paid_1 : decode cX9_paid 1 = .ok (.iconst 0, 1) := by decide +kernel
theorem dX9_paid_2 : decode cX9_paid 2 = .ok (.bipush 7, 2) := by decide +kernel
theorem dX9_paid_4 : decode cX9_paid 4 = .ok (.invokestatic 42, 3) := by decide +kernel
theorem dX9_paid_7 : decode cX9_paid 7 = .ok (.ifCond .eq 15, 3) := by decide +kernel
theorem dX9_paid_10 : decode cX9_paid 10 = .ok (.aload_n 0, 1) := by decide +kernel
theorem dX9_paid_11 : decode cX9_paid 11 = .ok (.getfield 7, 3) := by decide +kernel
theorem dX9_paid_14 : decode cX9_paid 14 = .ok (.bipush 16, 2) := by decide +kernel
theorem dX9_paid_16 : decode cX9_paid 16 = .ok (.iload_n 1, 1) := by decide +kernel
theorem dX9_paid_17 : decode cX9_paid 17 = .ok (.iadd, 1) := by decide +kernel
theorem dX9_paid_18 : decode cX9_paid 18 = .ok (.iaload, 1) := by decide +kernel
theorem dX9_paid_19 : decode cX9_paid 19 = .ok (.goto 5, 3) := by decide +kernel
theorem dX9_paid_22 : decode cX9_paid 22 = .ok (.bipush (-2), 2) := by decide +kernel
theorem dX9_paid_24 : decode cX9_paid 24 = .ok (.ireturn, 1) := by decide +kernel
theorem dX9_isAhead_0 : decode cX9_isAhead 0 = .ok (.sipush 756, 3) := by decide +kernel
theorem dX9_isAhead_3 : decode cX9_isAhead 3 = .ok (.bipush 10, 2) := by decide +kernel
theorem dX9_isAhead_5 : decode cX9_isAhead 5 = .ok (.iload_n 1, 1) := by decide +kernel
theorem dX9_isAhead_6 : decode cX9_isAhead 6 = .ok (.imul, 1) := by decide +kernel
theorem dX9_isAhead_7 : decode cX9_isAhead 7 = .ok (.iadd, 1) := by decide +kernel
theorem dX9_isAhead_8 : decode cX9_isAhead 8 = .ok (.istore_n 3, 1) := by decide +kernel
theorem dX9_isAhead_9 : decode cX9_isAhead 9 = .ok (.sipush 756, 3) := by decide +kernel
theorem dX9_isAhead_12 : decode cX9_isAhead 12 = .ok (.bipush 10, 2) := by decide +kernel
theorem dX9_isAhead_14 : decode cX9_isAhead 14 = .ok (.iload_n 2, 1) := by decide +kernel
theorem dX9_isAhead_15 : decode cX9_isAhead 15 = .ok (.imul, 1) := by decide +kernel
theorem dX9_isAhead_16 : decode cX9_isAhead 16 = .ok (.iadd, 1) := by decide +kernel
theorem dX9_isAhead_17 : decode cX9_isAhead 17 = .ok (.istore 4, 2) := by decide +kernel
theorem dX9_isAhead_19 : decode cX9_isAhead 19 = .ok (.aload_n 0, 1) := by decide +kernel
theorem dX9_isAhead_20 : decode cX9_isAhead 20 = .ok (.getfield 7, 3) := by decide +kernel
theorem dX9_isAhead_23 : decode cX9_isAhead 23 = .ok (.iload_n 3, 1) := by decide +kernel
theorem dX9_isAhead_24 : decode cX9_isAhead 24 = .ok (.bipush 7, 2) := by decide +kernel
theorem dX9_isAhead_26 : decode cX9_isAhead 26 = .ok (.iadd, 1) := by decide +kernel
theorem dX9_isAhead_27 : decode cX9_isAhead 27 = .ok (.iaload, 1) := by decide +kernel
theorem dX9_isAhead_28 : decode cX9_isAhead 28 = .ok (.aload_n 0, 1) := by decide +kernel
theorem dX9_isAhead_29 : decode cX9_isAhead 29 = .ok (.getfield 7, 3) := by decide +kernel
theorem dX9_isAhead_32 : decode cX9_isAhead 32 = .ok (.iload 4, 2) := by decide +kernel
theorem dX9_isAhead_34 : decode cX9_isAhead 34 = .ok (.bipush 7, 2) := by decide +kernel
theorem dX9_isAhead_36 : decode cX9_isAhead 36 = .ok (.iadd, 1) := by decide +kernel
theorem dX9_isAhead_37 : decode cX9_isAhead 37 = .ok (.iaload, 1) := by decide +kernel
theorem dX9_isAhead_38 : decode cX9_isAhead 38 = .ok (.if_icmp .eq 31, 3) := by decide +kernel
theorem dX9_isAhead_41 : decode cX9_isAhead 41 = .ok (.aload_n 0, 1) := by decide +kernel
theorem dX9_isAhead_42 : decode cX9_isAhead 42 = .ok (.getfield 7, 3) := by decide +kernel
theorem dX9_isAhead_45 : decode cX9_isAhead 45 = .ok (.iload_n 3, 1) := by decide +kernel
theorem dX9_isAhead_46 : decode cX9_isAhead 46 = .ok (.bipush 7, 2) := by decide +kernel
theorem dX9_isAhead_48 : decode cX9_isAhead 48 = .ok (.iadd, 1) := by decide +kernel
theorem dX9_isAhead_49 : decode cX9_isAhead 49 = .ok (.iaload, 1) := by decide +kernel
theorem dX9_isAhead_50 : decode cX9_isAhead 50 = .ok (.aload_n 0, 1) := by decide +kernel
theorem dX9_isAhead_51 : decode cX9_isAhead 51 = .ok (.getfield 7, 3) := by decide +kernel
theorem dX9_isAhead_54 : decode cX9_isAhead 54 = .ok (.iload 4, 2) := by decide +kernel
theorem dX9_isAhead_56 : decode cX9_isAhead 56 = .ok (.bipush 7, 2) := by decide +kernel
theorem dX9_isAhead_58 : decode cX9_isAhead 58 = .ok (.iadd, 1) := by decide +kernel
theorem dX9_isAhead_59 : decode cX9_isAhead 59 = .ok (.iaload, 1) := by decide +kernel
theorem dX9_isAhead_60 : decode cX9_isAhead 60 = .ok (.if_icmp .ge 7, 3) := by decide +kernel
theorem dX9_isAhead_63 : decode cX9_isAhead 63 = .ok (.iconst 1, 1) := by decide +kernel
theorem dX9_isAhead_64 : decode cX9_isAhead 64 = .ok (.goto 4, 3) := by decide +kernel
theorem dX9_isAhead_67 : decode cX9_isAhead 67 = .ok (.iconst 0, 1) := by decide +kernel
theorem dX9_isAhead_68 : decode cX9_isAhead 68 = .ok (.ireturn, 1) := by decide +kernel
theorem dX9_isAhead_69 : decode cX9_isAhead 69 = .ok (.aload_n 0, 1) := by decide +kernel
theorem dX9_isAhead_70 : decode cX9_isAhead 70 = .ok (.getfield 7, 3) := by decide +kernel
theorem dX9_isAhead_73 : decode cX9_isAhead 73 = .ok (.iload_n 3, 1) := by decide +kernel
theorem dX9_isAhead_74 : decode cX9_isAhead 74 = .ok (.iconst 5, 1) := by decide +kernel
theorem dX9_isAhead_75 : decode cX9_isAhead 75 = .ok (.iadd, 1) := by decide +kernel
theorem dX9_isAhead_76 : decode cX9_isAhead 76 = .ok (.iaload, 1) := by decide +kernel
theorem dX9_isAhead_77 : decode cX9_isAhead 77 = .ok (.aload_n 0, 1) := by decide +kernel
theorem dX9_isAhead_78 : decode cX9_isAhead 78 = .ok (.getfield 7, 3) := by decide +kernel
theorem dX9_isAhead_81 : decode cX9_isAhead 81 = .ok (.iload 4, 2) := by decide +kernel
theorem dX9_isAhead_83 : decode cX9_isAhead 83 = .ok (.iconst 5, 1) := by decide +kernel
theorem dX9_isAhead_84 : decode cX9_isAhead 84 = .ok (.iadd, 1) := by decide +kernel
theorem dX9_isAhead_85 : decode cX9_isAhead 85 = .ok (.iaload, 1) := by decide +kernel
theorem dX9_isAhead_86 : decode cX9_isAhead 86 = .ok (.if_icmp .eq 29, 3) := by decide +kernel
theorem dX9_isAhead_89 : decode cX9_isAhead 89 = .ok (.aload_n 0, 1) := by decide +kernel
theorem dX9_isAhead_90 : decode cX9_isAhead 90 = .ok (.getfield 7, 3) := by decide +kernel
theorem dX9_isAhead_93 : decode cX9_isAhead 93 = .ok (.iload_n 3, 1) := by decide +kernel
theorem dX9_isAhead_94 : decode cX9_isAhead 94 = .ok (.iconst 5, 1) := by decide +kernel
theorem dX9_isAhead_95 : decode cX9_isAhead 95 = .ok (.iadd, 1) := by decide +kernel
theorem dX9_isAhead_96 : decode cX9_isAhead 96 = .ok (.iaload, 1) := by decide +kernel
theorem dX9_isAhead_97 : decode cX9_isAhead 97 = .ok (.aload_n 0, 1) := by decide +kernel
theorem dX9_isAhead_98 : decode cX9_isAhead 98 = .ok (.getfield 7, 3) := by decide +kernel
theorem dX9_isAhead_101 : decode cX9_isAhead 101 = .ok (.iload 4, 2) := by decide +kernel
theorem dX9_isAhead_103 : decode cX9_isAhead 103 = .ok (.iconst 5, 1) := by decide +kernel
theorem dX9_isAhead_104 : decode cX9_isAhead 104 = .ok (.iadd, 1) := by decide +kernel
theorem dX9_isAhead_105 : decode cX9_isAhead 105 = .ok (.iaload, 1) := by decide +kernel
theorem dX9_isAhead_106 : decode cX9_isAhead 106 = .ok (.if_icmp .le 7, 3) := by decide +kernel
theorem dX9_isAhead_109 : decode cX9_isAhead 109 = .ok (.iconst 1, 1) := by decide +kernel
theorem dX9_isAhead_110 : decode cX9_isAhead 110 = .ok (.goto 4, 3) := by decide +kernel
theorem dX9_isAhead_113 : decode cX9_isAhead 113 = .ok (.iconst 0, 1) := by decide +kernel
theorem dX9_isAhead_114 : decode cX9_isAhead 114 = .ok (.ireturn, 1) := by decide +kernel
theorem dX9_isAhead_115 : decode cX9_isAhead 115 = .ok (.aload_n 0, 1) := by decide +kernel
theorem dX9_isAhead_116 : decode cX9_isAhead 116 = .ok (.getfield 7, 3) := by decide +kernel
theorem dX9_isAhead_119 : decode cX9_isAhead 119 = .ok (.iload_n 3, 1) := by decide +kernel
theorem dX9_isAhead_120 : decode cX9_isAhead 120 = .ok (.bipush 6, 2) := by decide +kernel
theorem dX9_isAhead_122 : decode cX9_isAhead 122 = .ok (.iadd, 1) := by decide +kernel
theorem dX9_isAhead_123 : decode cX9_isAhead 123 = .ok (.iaload, 1) := by decide +kernel
theorem dX9_isAhead_124 : decode cX9_isAhead 124 = .ok (.aload_n 0, 1) := by decide +kernel
theorem dX9_isAhead_125 : decode cX9_isAhead 125 = .ok (.getfield 7, 3) := by decide +kernel
theorem dX9_isAhead_128 : decode cX9_isAhead 128 = .ok (.iload 4, 2) := by decide +kernel
theorem dX9_isAhead_130 : decode cX9_isAhead 130 = .ok (.bipush 6, 2) := by decide +kernel
theorem dX9_isAhead_132 : decode cX9_isAhead 132 = .ok (.iadd, 1) := by decide +kernel
theorem dX9_isAhead_133 : decode cX9_isAhead 133 = .ok (.iaload, 1) := by decide +kernel
theorem dX9_isAhead_134 : decode cX9_isAhead 134 = .ok (.if_icmp .eq 33, 3) := by decide +kernel
theorem dX9_isAhead_137 : decode cX9_isAhead 137 = .ok (.aload_n 0, 1) := by decide +kernel
theorem dX9_isAhead_138 : decode cX9_isAhead 138 = .ok (.getfield 7, 3) := by decide +kernel
theorem dX9_isAhead_141 : decode cX9_isAhead 141 = .ok (.iload_n 3, 1) := by decide +kernel
theorem dX9_isAhead_142 : decode cX9_isAhead 142 = .ok (.bipush 6, 2) := by decide +kernel
theorem dX9_isAhead_144 : decode cX9_isAhead 144 = .ok (.iadd, 1) := by decide +kernel
theorem dX9_isAhead_145 : decode cX9_isAhead 145 = .ok (.iaload, 1) := by decide +kernel
theorem dX9_isAhead_146 : decode cX9_isAhead 146 = .ok (.aload_n 0, 1) := by decide +kernel
theorem dX9_isAhead_147 : decode cX9_isAhead 147 = .ok (.getfield 7, 3) := by decide +kernel
theorem dX9_isAhead_150 : decode cX9_isAhead 150 = .ok (.iload 4, 2) := by decide +kernel
theorem dX9_isAhead_152 : decode cX9_isAhead 152 = .ok (.bipush 6, 2) := by decide +kernel
theorem dX9_isAhead_154 : decode cX9_isAhead 154 = .ok (.iadd, 1) := by decide +kernel
theorem dX9_isAhead_155 : decode cX9_isAhead 155 = .ok (.iaload, 1) := by decide +kernel
theorem dX9_isAhead_156 : decode cX9_isAhead 156 = .ok (.if_icmp .le 7, 3) := by decide +kernel
theorem dX9_isAhead_159 : decode cX9_isAhead 159 = .ok (.iconst 1, 1) := by decide +kernel
theorem dX9_isAhead_160 : decode cX9_isAhead 160 = .ok (.goto 17, 3) := by decide +kernel
theorem dX9_isAhead_163 : decode cX9_isAhead 163 = .ok (.iconst 0, 1) := by decide +kernel
theorem dX9_isAhead_164 : decode cX9_isAhead 164 = .ok (.goto 13, 3) := by decide +kernel
theorem dX9_isAhead_167 : decode cX9_isAhead 167 = .ok (.iload_n 1, 1) := by decide +kernel
theorem dX9_isAhead_168 : decode cX9_isAhead 168 = .ok (.iload_n 2, 1) := by decide +kernel
theorem dX9_isAhead_169 : decode cX9_isAhead 169 = .ok (.if_icmp .ge 7, 3) := by decide +kernel
theorem dX9_isAhead_172 : decode cX9_isAhead 172 = .ok (.iconst 1, 1) := by decide +kernel
theorem dX9_isAhead_173 : decode cX9_isAhead 173 = .ok (.goto 4, 3) := by decide +kernel
theorem dX9_isAhead_176 : decode cX9_isAhead 176 = .ok (.iconst 0, 1) := by decide +kernel
theorem dX9_isAhead_177 : decode cX9_isAhead 177 = .ok (.ireturn, 1) := by decide +kernel
theorem dX9_next_0 : decode cX9_next 0 = .ok (.iload_n 1, 1) := by decide +kernel
theorem dX9_next_1 : decode cX9_next 1 = .ok (.ifCond .ge 6, 3) := by decide +kernel
theorem dX9_next_4 : decode cX9_next 4 = .ok (.bipush (-2), 2) := by decide +kernel
theorem dX9_next_6 : decode cX9_next 6 = .ok (.ireturn, 1) := by decide +kernel
theorem dX9_next_7 : decode cX9_next 7 = .ok (.iconst 0, 1) := by decide +kernel
theorem dX9_next_8 : decode cX9_next 8 = .ok (.istore_n 2, 1) := by decide +kernel
theorem dX9_next_9 : decode cX9_next 9 = .ok (.iload_n 2, 1) := by decide +kernel
theorem dX9_next_10 : decode cX9_next 10 = .ok (.aload_n 0, 1) := by decide +kernel
theorem dX9_next_11 : decode cX9_next 11 = .ok (.getfield 7, 3) := by decide +kernel
theorem dX9_next_14 : decode cX9_next 14 = .ok (.bipush 6, 2) := by decide +kernel
theorem dX9_next_16 : decode cX9_next 16 = .ok (.iaload, 1) := by decide +kernel
theorem dX9_next_17 : decode cX9_next 17 = .ok (.if_icmp .ge 80, 3) := by decide +kernel
theorem dX9_next_20 : decode cX9_next 20 = .ok (.iconst 0, 1) := by decide +kernel
theorem dX9_next_21 : decode cX9_next 21 = .ok (.istore_n 3, 1) := by decide +kernel
theorem dX9_next_22 : decode cX9_next 22 = .ok (.iconst 0, 1) := by decide +kernel
theorem dX9_next_23 : decode cX9_next 23 = .ok (.istore 4, 2) := by decide +kernel
theorem dX9_next_25 : decode cX9_next 25 = .ok (.iload 4, 2) := by decide +kernel
theorem dX9_next_27 : decode cX9_next 27 = .ok (.aload_n 0, 1) := by decide +kernel
theorem dX9_next_28 : decode cX9_next 28 = .ok (.getfield 7, 3) := by decide +kernel
theorem dX9_next_31 : decode cX9_next 31 = .ok (.bipush 6, 2) := by decide +kernel
theorem dX9_next_33 : decode cX9_next 33 = .ok (.iaload, 1) := by decide +kernel
theorem dX9_next_34 : decode cX9_next 34 = .ok (.if_icmp .ge 42, 3) := by decide +kernel
theorem dX9_next_37 : decode cX9_next 37 = .ok (.iload_n 3, 1) := by decide +kernel
theorem dX9_next_38 : decode cX9_next 38 = .ok (.iload 4, 2) := by decide +kernel
theorem dX9_next_40 : decode cX9_next 40 = .ok (.iload_n 2, 1) := by decide +kernel
theorem dX9_next_41 : decode cX9_next 41 = .ok (.if_icmp .eq 26, 3) := by decide +kernel
theorem dX9_next_44 : decode cX9_next 44 = .ok (.aload_n 0, 1) := by decide +kernel
theorem dX9_next_45 : decode cX9_next 45 = .ok (.iload 4, 2) := by decide +kernel
theorem dX9_next_47 : decode cX9_next 47 = .ok (.invokevirtual 132, 3) := by decide +kernel
theorem dX9_next_50 : decode cX9_next 50 = .ok (.ifCond .eq 17, 3) := by decide +kernel
theorem dX9_next_53 : decode cX9_next 53 = .ok (.aload_n 0, 1) := by decide +kernel
theorem dX9_next_54 : decode cX9_next 54 = .ok (.iload 4, 2) := by decide +kernel
theorem dX9_next_56 : decode cX9_next 56 = .ok (.iload_n 2, 1) := by decide +kernel
theorem dX9_next_57 : decode cX9_next 57 = .ok (.invokevirtual 187, 3) := by decide +kernel
theorem dX9_next_60 : decode cX9_next 60 = .ok (.ifCond .eq 7, 3) := by decide +kernel
theorem dX9_next_63 : decode cX9_next 63 = .ok (.iconst 1, 1) := by decide +kernel
theorem dX9_next_64 : decode cX9_next 64 = .ok (.goto 4, 3) := by decide +kernel
theorem dX9_next_67 : decode cX9_next 67 = .ok (.iconst 0, 1) := by decide +kernel
theorem dX9_next_68 : decode cX9_next 68 = .ok (.iadd, 1) := by decide +kernel
theorem dX9_next_69 : decode cX9_next 69 = .ok (.istore_n 3, 1) := by decide +kernel
theorem dX9_next_70 : decode cX9_next 70 = .ok (.iinc 4 1, 3) := by decide +kernel
theorem dX9_next_73 : decode cX9_next 73 = .ok (.goto (-48), 3) := by decide +kernel
theorem dX9_next_76 : decode cX9_next 76 = .ok (.aload_n 0, 1) := by decide +kernel
theorem dX9_next_77 : decode cX9_next 77 = .ok (.iload_n 2, 1) := by decide +kernel
theorem dX9_next_78 : decode cX9_next 78 = .ok (.invokevirtual 132, 3) := by decide +kernel
theorem dX9_next_81 : decode cX9_next 81 = .ok (.ifCond .eq 10, 3) := by decide +kernel
theorem dX9_next_84 : decode cX9_next 84 = .ok (.iload_n 3, 1) := by decide +kernel
theorem dX9_next_85 : decode cX9_next 85 = .ok (.iload_n 1, 1) := by decide +kernel
theorem dX9_next_86 : decode cX9_next 86 = .ok (.if_icmp .ne 5, 3) := by decide +kernel
theorem dX9_next_89 : decode cX9_next 89 = .ok (.iload_n 2, 1) := by decide +kernel
theorem dX9_next_90 : decode cX9_next 90 = .ok (.ireturn, 1) := by decide +kernel
theorem dX9_next_91 : decode cX9_next 91 = .ok (.iinc 2 1, 3) := by decide +kernel
theorem dX9_next_94 : decode cX9_next 94 = .ok (.goto (-85), 3) := by decide +kernel
theorem dX9_next_97 : decode cX9_next 97 = .ok (.bipush (-6), 2) := by decide +kernel
theorem dX9_next_99 : decode cX9_next 99 = .ok (.ireturn, 1) := by decide +kernel
theorem dX9_total_0 : decode cX9_total 0 = .ok (.iload_n 1, 1) := by decide +kernel
theorem dX9_total_1 : decode cX9_total 1 = .ok (.iconst 0, 1) := by decide +kernel
theorem dX9_total_2 : decode cX9_total 2 = .ok (.bipush 13, 2) := by decide +kernel
theorem dX9_total_4 : decode cX9_total 4 = .ok (.invokestatic 42, 3) := by decide +kernel
theorem dX9_total_7 : decode cX9_total 7 = .ok (.ifCond .ne 6, 3) := by decide +kernel
theorem dX9_total_10 : decode cX9_total 10 = .ok (.bipush (-2), 2) := by decide +kernel
theorem dX9_total_12 : decode cX9_total 12 = .ok (.ireturn, 1) := by decide +kernel
theorem dX9_total_13 : decode cX9_total 13 = .ok (.iload_n 1, 1) := by decide +kernel
theorem dX9_total_14 : decode cX9_total 14 = .ok (.bipush 7, 2) := by decide +kernel
theorem dX9_total_16 : decode cX9_total 16 = .ok (.if_icmp .ge 12, 3) := by decide +kernel
theorem dX9_total_19 : decode cX9_total 19 = .ok (.aload_n 0, 1) := by decide +kernel
theorem dX9_total_20 : decode cX9_total 20 = .ok (.getfield 7, 3) := by decide +kernel
theorem dX9_total_23 : decode cX9_total 23 = .ok (.iload_n 1, 1) := by decide +kernel
theorem dX9_total_24 : decode cX9_total 24 = .ok (.iaload, 1) := by decide +kernel
theorem dX9_total_25 : decode cX9_total 25 = .ok (.goto 53, 3) := by decide +kernel
theorem dX9_total_28 : decode cX9_total 28 = .ok (.iload_n 1, 1) := by decide +kernel
theorem dX9_total_29 : decode cX9_total 29 = .ok (.bipush 11, 2) := by decide +kernel
theorem dX9_total_31 : decode cX9_total 31 = .ok (.if_icmp .ge 14, 3) := by decide +kernel
theorem dX9_total_34 : decode cX9_total 34 = .ok (.aload_n 0, 1) := by decide +kernel
theorem dX9_total_35 : decode cX9_total 35 = .ok (.iload_n 1, 1) := by decide +kernel
theorem dX9_total_36 : decode cX9_total 36 = .ok (.bipush 7, 2) := by decide +kernel
theorem dX9_total_38 : decode cX9_total 38 = .ok (.isub, 1) := by decide +kernel
theorem dX9_total_39 : decode cX9_total 39 = .ok (.invokevirtual 136, 3) := by decide +kernel
theorem dX9_total_42 : decode cX9_total 42 = .ok (.goto 36, 3) := by decide +kernel
theorem dX9_total_45 : decode cX9_total 45 = .ok (.iload_n 1, 1) := by decide +kernel
theorem dX9_total_46 : decode cX9_total 46 = .ok (.bipush 11, 2) := by decide +kernel
theorem dX9_total_48 : decode cX9_total 48 = .ok (.if_icmp .ne 13, 3) := by decide +kernel
theorem dX9_total_51 : decode cX9_total 51 = .ok (.aload_n 0, 1) := by decide +kernel
theorem dX9_total_52 : decode cX9_total 52 = .ok (.getfield 7, 3) := by decide +kernel
theorem dX9_total_55 : decode cX9_total 55 = .ok (.bipush 7, 2) := by decide +kernel
theorem dX9_total_57 : decode cX9_total 57 = .ok (.iaload, 1) := by decide +kernel
theorem dX9_total_58 : decode cX9_total 58 = .ok (.goto 20, 3) := by decide +kernel
theorem dX9_total_61 : decode cX9_total 61 = .ok (.iload_n 1, 1) := by decide +kernel
theorem dX9_total_62 : decode cX9_total 62 = .ok (.bipush 12, 2) := by decide +kernel
theorem dX9_total_64 : decode cX9_total 64 = .ok (.if_icmp .ne 10, 3) := by decide +kernel
theorem dX9_total_67 : decode cX9_total 67 = .ok (.aload_n 0, 1) := by decide +kernel
theorem dX9_total_68 : decode cX9_total 68 = .ok (.getfield 38, 3) := by decide +kernel
theorem dX9_total_71 : decode cX9_total 71 = .ok (.goto 7, 3) := by decide +kernel
theorem dX9_total_74 : decode cX9_total 74 = .ok (.aload_n 0, 1) := by decide +kernel
theorem dX9_total_75 : decode cX9_total 75 = .ok (.getfield 155, 3) := by decide +kernel
theorem dX9_total_78 : decode cX9_total 78 = .ok (.ireturn, 1) := by decide +kernel
theorem dX9_heard_0 : decode cX9_heard 0 = .ok (.aload_n 0, 1) := by decide +kernel
theorem dX9_heard_1 : decode cX9_heard 1 = .ok (.iconst 1, 1) := by decide +kernel
theorem dX9_heard_2 : decode cX9_heard 2 = .ok (.iload_n 1, 1) := by decide +kernel
theorem dX9_heard_3 : decode cX9_heard 3 = .ok (.invokevirtual 64, 3) := by decide +kernel
theorem dX9_heard_6 : decode cX9_heard 6 = .ok (.ifCond .eq 39, 3) := by decide +kernel
theorem dX9_heard_9 : decode cX9_heard 9 = .ok (.aload_n 0, 1) := by decide +kernel
theorem dX9_heard_10 : decode cX9_heard 10 = .ok (.iconst 2, 1) := by decide +kernel
theorem dX9_heard_11 : decode cX9_heard 11 = .ok (.iload_n 2, 1) := by decide +kernel
theorem dX9_heard_12 : decode cX9_heard 12 = .ok (.invokevirtual 64, 3) := by decide +kernel
theorem dX9_heard_15 : decode cX9_heard 15 = .ok (.ifCond .eq 30, 3) := by decide +kernel
theorem dX9_heard_18 : decode cX9_heard 18 = .ok (.iload 5, 2) := by decide +kernel
theorem dX9_heard_20 : decode cX9_heard 20 = .ok (.iconst 0, 1) := by decide +kernel
theorem dX9_heard_21 : decode cX9_heard 21 = .ok (.aload_n 0, 1) := by decide +kernel
theorem dX9_heard_22 : decode cX9_heard 22 = .ok (.getfield 7, 3) := by decide +kernel
theorem dX9_heard_25 : decode cX9_heard 25 = .ok (.bipush 24, 2) := by decide +kernel
theorem dX9_heard_27 : decode cX9_heard 27 = .ok (.iconst 5, 1) := by decide +kernel
theorem dX9_heard_28 : decode cX9_heard 28 = .ok (.iload_n 1, 1) := by decide +kernel
theorem dX9_heard_29 : decode cX9_heard 29 = .ok (.imul, 1) := by decide +kernel
theorem dX9_heard_30 : decode cX9_heard 30 = .ok (.iadd, 1) := by decide +kernel
theorem dX9_heard_31 : decode cX9_heard 31 = .ok (.iconst 2, 1) := by decide +kernel
theorem dX9_heard_32 : decode cX9_heard 32 = .ok (.iadd, 1) := by decide +kernel
theorem dX9_heard_33 : decode cX9_heard 33 = .ok (.iaload, 1) := by decide +kernel
theorem dX9_heard_34 : decode cX9_heard 34 = .ok (.invokestatic 57, 3) := by decide +kernel
theorem dX9_heard_37 : decode cX9_heard 37 = .ok (.iconst 1, 1) := by decide +kernel
theorem dX9_heard_38 : decode cX9_heard 38 = .ok (.isub, 1) := by decide +kernel
theorem dX9_heard_39 : decode cX9_heard 39 = .ok (.invokestatic 42, 3) := by decide +kernel
theorem dX9_heard_42 : decode cX9_heard 42 = .ok (.ifCond .ne 5, 3) := by decide +kernel
theorem dX9_heard_45 : decode cX9_heard 45 = .ok (.iconst (-1), 1) := by decide +kernel
theorem dX9_heard_46 : decode cX9_heard 46 = .ok (.ireturn, 1) := by decide +kernel
theorem dX9_heard_47 : decode cX9_heard 47 = .ok (.aload_n 0, 1) := by decide +kernel
theorem dX9_heard_48 : decode cX9_heard 48 = .ok (.iload_n 1, 1) := by decide +kernel
theorem dX9_heard_49 : decode cX9_heard 49 = .ok (.iload_n 2, 1) := by decide +kernel
theorem dX9_heard_50 : decode cX9_heard 50 = .ok (.iload_n 3, 1) := by decide +kernel
theorem dX9_heard_51 : decode cX9_heard 51 = .ok (.iload 4, 2) := by decide +kernel
theorem dX9_heard_53 : decode cX9_heard 53 = .ok (.invokevirtual 106, 3) := by decide +kernel
theorem dX9_heard_56 : decode cX9_heard 56 = .ok (.ifCond .ge 6, 3) := by decide +kernel
theorem dX9_heard_59 : decode cX9_heard 59 = .ok (.bipush (-2), 2) := by decide +kernel
theorem dX9_heard_61 : decode cX9_heard 61 = .ok (.ireturn, 1) := by decide +kernel
theorem dX9_heard_62 : decode cX9_heard 62 = .ok (.aload_n 0, 1) := by decide +kernel
theorem dX9_heard_63 : decode cX9_heard 63 = .ok (.getfield 7, 3) := by decide +kernel
theorem dX9_heard_66 : decode cX9_heard 66 = .ok (.bipush 24, 2) := by decide +kernel
theorem dX9_heard_68 : decode cX9_heard 68 = .ok (.iconst 5, 1) := by decide +kernel
theorem dX9_heard_69 : decode cX9_heard 69 = .ok (.iload_n 1, 1) := by decide +kernel
theorem dX9_heard_70 : decode cX9_heard 70 = .ok (.imul, 1) := by decide +kernel
theorem dX9_heard_71 : decode cX9_heard 71 = .ok (.iadd, 1) := by decide +kernel
theorem dX9_heard_72 : decode cX9_heard 72 = .ok (.iaload, 1) := by decide +kernel
theorem dX9_heard_73 : decode cX9_heard 73 = .ok (.aload_n 0, 1) := by decide +kernel
theorem dX9_heard_74 : decode cX9_heard 74 = .ok (.getfield 7, 3) := by decide +kernel
theorem dX9_heard_77 : decode cX9_heard 77 = .ok (.bipush 64, 2) := by decide +kernel
theorem dX9_heard_79 : decode cX9_heard 79 = .ok (.iconst 5, 1) := by decide +kernel
theorem dX9_heard_80 : decode cX9_heard 80 = .ok (.iload_n 2, 1) := by decide +kernel
theorem dX9_heard_81 : decode cX9_heard 81 = .ok (.imul, 1) := by decide +kernel
theorem dX9_heard_82 : decode cX9_heard 82 = .ok (.iadd, 1) := by decide +kernel
theorem dX9_heard_83 : decode cX9_heard 83 = .ok (.iaload, 1) := by decide +kernel
theorem dX9_heard_84 : decode cX9_heard 84 = .ok (.if_icmp .ne 17, 3) := by decide +kernel
theorem dX9_heard_87 : decode cX9_heard 87 = .ok (.aload_n 0, 1) := by decide +kernel
theorem dX9_heard_88 : decode cX9_heard 88 = .ok (.iload_n 1, 1) := by decide +kernel
theorem dX9_heard_89 : decode cX9_heard 89 = .ok (.iload_n 2, 1) := by decide +kernel
theorem dX9_heard_90 : decode cX9_heard 90 = .ok (.iload_n 3, 1) := by decide +kernel
theorem dX9_heard_91 : decode cX9_heard 91 = .ok (.iload 4, 2) := by decide +kernel
theorem dX9_heard_93 : decode cX9_heard 93 = .ok (.iload 5, 2) := by decide +kernel
theorem dX9_heard_95 : decode cX9_heard 95 = .ok (.invokevirtual 89, 3) := by decide +kernel
theorem dX9_heard_98 : decode cX9_heard 98 = .ok (.goto 5, 3) := by decide +kernel
theorem dX9_heard_101 : decode cX9_heard 101 = .ok (.bipush (-3), 2) := by decide +kernel
theorem dX9_heard_103 : decode cX9_heard 103 = .ok (.ireturn, 1) := by decide +kernel
theorem dX9_duration_0 : decode cX9_duration 0 = .ok (.aload_n 0, 1) := by decide +kernel
theorem dX9_duration_1 : decode cX9_duration 1 = .ok (.iconst 1, 1) := by decide +kernel
theorem dX9_duration_2 : decode cX9_duration 2 = .ok (.iload_n 1, 1) := by decide +kernel
theorem dX9_duration_3 : decode cX9_duration 3 = .ok (.invokevirtual 64, 3) := by decide +kernel
theorem dX9_duration_6 : decode cX9_duration 6 = .ok (.ifCond .ne 5, 3) := by decide +kernel
theorem dX9_duration_9 : decode cX9_duration 9 = .ok (.iconst (-1), 1) := by decide +kernel
theorem dX9_duration_10 : decode cX9_duration 10 = .ok (.ireturn, 1) := by decide +kernel
theorem dX9_duration_11 : decode cX9_duration 11 = .ok (.aload_n 0, 1) := by decide +kernel
theorem dX9_duration_12 : decode cX9_duration 12 = .ok (.aload_n 0, 1) := by decide +kernel
theorem dX9_duration_13 : decode cX9_duration 13 = .ok (.getfield 7, 3) := by decide +kernel
theorem dX9_duration_16 : decode cX9_duration 16 = .ok (.bipush 24, 2) := by decide +kernel
theorem dX9_duration_18 : decode cX9_duration 18 = .ok (.iconst 5, 1) := by decide +kernel
theorem dX9_duration_19 : decode cX9_duration 19 = .ok (.iload_n 1, 1) := by decide +kernel
theorem dX9_duration_20 : decode cX9_duration 20 = .ok (.imul, 1) := by decide +kernel
theorem dX9_duration_21 : decode cX9_duration 21 = .ok (.iadd, 1) := by decide +kernel
theorem dX9_duration_22 : decode cX9_duration 22 = .ok (.iaload, 1) := by decide +kernel
theorem dX9_duration_23 : decode cX9_duration 23 = .ok (.iload_n 2, 1) := by decide +kernel
theorem dX9_duration_24 : decode cX9_duration 24 = .ok (.invokevirtual 46, 3) := by decide +kernel
theorem dX9_duration_27 : decode cX9_duration 27 = .ok (.ifCond .ge 8, 3) := by decide +kernel
theorem dX9_duration_30 : decode cX9_duration 30 = .ok (.bipush (-2), 2) := by decide +kernel
theorem dX9_duration_32 : decode cX9_duration 32 = .ok (.goto 9, 3) := by decide +kernel
theorem dX9_duration_35 : decode cX9_duration 35 = .ok (.aload_n 0, 1) := by decide +kernel
theorem dX9_duration_36 : decode cX9_duration 36 = .ok (.iload_n 1, 1) := by decide +kernel
theorem dX9_duration_37 : decode cX9_duration 37 = .ok (.iload_n 2, 1) := by decide +kernel
theorem dX9_duration_38 : decode cX9_duration 38 = .ok (.invokevirtual 96, 3) := by decide +kernel
theorem dX9_duration_41 : decode cX9_duration 41 = .ok (.ireturn, 1) := by decide +kernel
theorem dX9_speedOfPass_0 : decode cX9_speedOfPass 0 = .ok (.bipush 64, 2) := by decide +kernel
theorem dX9_speedOfPass_2 : decode cX9_speedOfPass 2 = .ok (.iconst 5, 1) := by decide +kernel
theorem dX9_speedOfPass_3 : decode cX9_speedOfPass 3 = .ok (.iload_n 2, 1) := by decide +kernel
theorem dX9_speedOfPass_4 : decode cX9_speedOfPass 4 = .ok (.bipush 6, 2) := by decide +kernel
theorem dX9_speedOfPass_6 : decode cX9_speedOfPass 6 = .ok (.idiv, 1) := by decide +kernel
theorem dX9_speedOfPass_7 : decode cX9_speedOfPass 7 = .ok (.imul, 1) := by decide +kernel
theorem dX9_speedOfPass_8 : decode cX9_speedOfPass 8 = .ok (.iadd, 1) := by decide +kernel
theorem dX9_speedOfPass_9 : decode cX9_speedOfPass 9 = .ok (.istore_n 3, 1) := by decide +kernel
theorem dX9_speedOfPass_10 : decode cX9_speedOfPass 10 = .ok (.iload_n 2, 1) := by decide +kernel
theorem dX9_speedOfPass_11 : decode cX9_speedOfPass 11 = .ok (.iconst 2, 1) := by decide +kernel
theorem dX9_speedOfPass_12 : decode cX9_speedOfPass 12 = .ok (.idiv, 1) := by decide +kernel
theorem dX9_speedOfPass_13 : decode cX9_speedOfPass 13 = .ok (.iconst 3, 1) := by decide +kernel
theorem dX9_speedOfPass_14 : decode cX9_speedOfPass 14 = .ok (.irem, 1) := by decide +kernel
theorem dX9_speedOfPass_15 : decode cX9_speedOfPass 15 = .ok (.istore 4, 2) := by decide +kernel
theorem dX9_speedOfPass_17 : decode cX9_speedOfPass 17 = .ok (.iload_n 2, 1) := by decide +kernel
theorem dX9_speedOfPass_18 : decode cX9_speedOfPass 18 = .ok (.bipush 6, 2) := by decide +kernel
theorem dX9_speedOfPass_20 : decode cX9_speedOfPass 20 = .ok (.idiv, 1) := by decide +kernel
theorem dX9_speedOfPass_21 : decode cX9_speedOfPass 21 = .ok (.aload_n 0, 1) := by decide +kernel
theorem dX9_speedOfPass_22 : decode cX9_speedOfPass 22 = .ok (.getfield 7, 3) := by decide +kernel
theorem dX9_speedOfPass_25 : decode cX9_speedOfPass 25 = .ok (.iconst 2, 1) := by decide +kernel
theorem dX9_speedOfPass_26 : decode cX9_speedOfPass 26 = .ok (.iaload, 1) := by decide +kernel
theorem dX9_speedOfPass_27 : decode cX9_speedOfPass 27 = .ok (.if_icmp .ge 44, 3) := by decide +kernel
theorem dX9_speedOfPass_30 : decode cX9_speedOfPass 30 = .ok (.aload_n 0, 1) := by decide +kernel
theorem dX9_speedOfPass_31 : decode cX9_speedOfPass 31 = .ok (.getfield 7, 3) := by decide +kernel
theorem dX9_speedOfPass_34 : decode cX9_speedOfPass 34 = .ok (.iload_n 3, 1) := by decide +kernel
theorem dX9_speedOfPass_35 : decode cX9_speedOfPass 35 = .ok (.iaload, 1) := by decide +kernel
theorem dX9_speedOfPass_36 : decode cX9_speedOfPass 36 = .ok (.aload_n 0, 1) := by decide +kernel
theorem dX9_speedOfPass_37 : decode cX9_speedOfPass 37 = .ok (.getfield 7, 3) := by decide +kernel
theorem dX9_speedOfPass_40 : decode cX9_speedOfPass 40 = .ok (.bipush 24, 2) := by decide +kernel
theorem dX9_speedOfPass_42 : decode cX9_speedOfPass 42 = .ok (.iconst 5, 1) := by decide +kernel
theorem dX9_speedOfPass_43 : decode cX9_speedOfPass 43 = .ok (.iload_n 1, 1) := by decide +kernel
theorem dX9_speedOfPass_44 : decode cX9_speedOfPass 44 = .ok (.imul, 1) := by decide +kernel
theorem dX9_speedOfPass_45 : decode cX9_speedOfPass 45 = .ok (.iadd, 1) := by decide +kernel
theorem dX9_speedOfPass_46 : decode cX9_speedOfPass 46 = .ok (.iaload, 1) := by decide +kernel
theorem dX9_speedOfPass_47 : decode cX9_speedOfPass 47 = .ok (.if_icmp .ne 24, 3) := by decide +kernel
theorem dX9_speedOfPass_50 : decode cX9_speedOfPass 50 = .ok (.aload_n 0, 1) := by decide +kernel
theorem dX9_speedOfPass_51 : decode cX9_speedOfPass 51 = .ok (.getfield 7, 3) := by decide +kernel
theorem dX9_speedOfPass_54 : decode cX9_speedOfPass 54 = .ok (.iload_n 3, 1) := by decide +kernel
theorem dX9_speedOfPass_55 : decode cX9_speedOfPass 55 = .ok (.iconst 1, 1) := by decide +kernel
theorem dX9_speedOfPass_56 : decode cX9_speedOfPass 56 = .ok (.iadd, 1) := by decide +kernel
theorem dX9_speedOfPass_57 : decode cX9_speedOfPass 57 = .ok (.iaload, 1) := by decide +kernel
theorem dX9_speedOfPass_58 : decode cX9_speedOfPass 58 = .ok (.iload 4, 2) := by decide +kernel
theorem dX9_speedOfPass_60 : decode cX9_speedOfPass 60 = .ok (.ishr, 1) := by decide +kernel
theorem dX9_speedOfPass_61 : decode cX9_speedOfPass 61 = .ok (.iconst 1, 1) := by decide +kernel
theorem dX9_speedOfPass_62 : decode cX9_speedOfPass 62 = .ok (.iand, 1) := by decide +kernel
theorem dX9_speedOfPass_63 : decode cX9_speedOfPass 63 = .ok (.iconst 1, 1) := by decide +kernel
theorem dX9_speedOfPass_64 : decode cX9_speedOfPass 64 = .ok (.if_icmp .ne 7, 3) := by decide +kernel
theorem dX9_speedOfPass_67 : decode cX9_speedOfPass 67 = .ok (.iconst 1, 1) := by decide +kernel
theorem dX9_speedOfPass_68 : decode cX9_speedOfPass 68 = .ok (.goto 4, 3) := by decide +kernel
theorem dX9_speedOfPass_71 : decode cX9_speedOfPass 71 = .ok (.iconst 0, 1) := by decide +kernel
theorem dX9_speedOfPass_72 : decode cX9_speedOfPass 72 = .ok (.istore 5, 2) := by decide +kernel
theorem dX9_speedOfPass_74 : decode cX9_speedOfPass 74 = .ok (.iload 5, 2) := by decide +kernel
theorem dX9_speedOfPass_76 : decode cX9_speedOfPass 76 = .ok (.ifCond .eq 22, 3) := by decide +kernel
theorem dX9_speedOfPass_79 : decode cX9_speedOfPass 79 = .ok (.aload_n 0, 1) := by decide +kernel
theorem dX9_speedOfPass_80 : decode cX9_speedOfPass 80 = .ok (.getfield 26, 3) := by decide +kernel
theorem dX9_speedOfPass_83 : decode cX9_speedOfPass 83 = .ok (.iconst 3, 1) := by decide +kernel
theorem dX9_speedOfPass_84 : decode cX9_speedOfPass 84 = .ok (.aload_n 0, 1) := by decide +kernel
theorem dX9_speedOfPass_85 : decode cX9_speedOfPass 85 = .ok (.getfield 7, 3) := by decide +kernel
theorem dX9_speedOfPass_88 : decode cX9_speedOfPass 88 = .ok (.iload_n 3, 1) := by decide +kernel
theorem dX9_speedOfPass_89 : decode cX9_speedOfPass 89 = .ok (.iaload, 1) := by decide +kernel
theorem dX9_speedOfPass_90 : decode cX9_speedOfPass 90 = .ok (.imul, 1) := by decide +kernel
theorem dX9_speedOfPass_91 : decode cX9_speedOfPass 91 = .ok (.iload 4, 2) := by decide +kernel
theorem dX9_speedOfPass_93 : decode cX9_speedOfPass 93 = .ok (.iadd, 1) := by decide +kernel
theorem dX9_speedOfPass_94 : decode cX9_speedOfPass 94 = .ok (.iaload, 1) := by decide +kernel
theorem dX9_speedOfPass_95 : decode cX9_speedOfPass 95 = .ok (.goto 4, 3) := by decide +kernel
theorem dX9_speedOfPass_98 : decode cX9_speedOfPass 98 = .ok (.iconst 0, 1) := by decide +kernel
theorem dX9_speedOfPass_99 : decode cX9_speedOfPass 99 = .ok (.ireturn, 1) := by decide +kernel
theorem dX9_planned_0 : decode cX9_planned 0 = .ok (.aload_n 0, 1) := by decide +kernel
theorem dX9_planned_1 : decode cX9_planned 1 = .ok (.iconst 3, 1) := by decide +kernel
theorem dX9_planned_2 : decode cX9_planned 2 = .ok (.iload_n 1, 1) := by decide +kernel
theorem dX9_planned_3 : decode cX9_planned 3 = .ok (.invokevirtual 64, 3) := by decide +kernel
theorem dX9_planned_6 : decode cX9_planned 6 = .ok (.ifCond .ne 5, 3) := by decide +kernel
theorem dX9_planned_9 : decode cX9_planned 9 = .ok (.iconst (-1), 1) := by decide +kernel
theorem dX9_planned_10 : decode cX9_planned 10 = .ok (.ireturn, 1) := by decide +kernel
theorem dX9_planned_11 : decode cX9_planned 11 = .ok (.iload_n 2, 1) := by decide +kernel
theorem dX9_planned_12 : decode cX9_planned 12 = .ok (.iconst 0, 1) := by decide +kernel
theorem dX9_planned_13 : decode cX9_planned 13 = .ok (.iconst 4, 1) := by decide +kernel
theorem dX9_planned_14 : decode cX9_planned 14 = .ok (.invokestatic 42, 3) := by decide +kernel
theorem dX9_planned_17 : decode cX9_planned 17 = .ok (.ifCond .ne 6, 3) := by decide +kernel
theorem dX9_planned_20 : decode cX9_planned 20 = .ok (.bipush (-2), 2) := by decide +kernel
theorem dX9_planned_22 : decode cX9_planned 22 = .ok (.ireturn, 1) := by decide +kernel
theorem dX9_planned_23 : decode cX9_planned 23 = .ok (.aload_n 0, 1) := by decide +kernel
theorem dX9_planned_24 : decode cX9_planned 24 = .ok (.getfield 7, 3) := by decide +kernel
theorem dX9_planned_27 : decode cX9_planned 27 = .ok (.bipush 84, 2) := by decide +kernel
theorem dX9_planned_29 : decode cX9_planned 29 = .ok (.iconst 5, 1) := by decide +kernel
theorem dX9_planned_30 : decode cX9_planned 30 = .ok (.iload_n 1, 1) := by decide +kernel
theorem dX9_planned_31 : decode cX9_planned 31 = .ok (.imul, 1) := by decide +kernel
theorem dX9_planned_32 : decode cX9_planned 32 = .ok (.iadd, 1) := by decide +kernel
theorem dX9_planned_33 : decode cX9_planned 33 = .ok (.iaload, 1) := by decide +kernel
theorem dX9_planned_34 : decode cX9_planned 34 = .ok (.istore_n 3, 1) := by decide +kernel
theorem dX9_planned_35 : decode cX9_planned 35 = .ok (.iconst (-1), 1) := by decide +kernel
theorem dX9_planned_36 : decode cX9_planned 36 = .ok (.istore 4, 2) := by decide +kernel
theorem dX9_planned_38 : decode cX9_planned 38 = .ok (.iconst 0, 1) := by decide +kernel
theorem dX9_planned_39 : decode cX9_planned 39 = .ok (.istore 5, 2) := by decide +kernel
theorem dX9_planned_41 : decode cX9_planned 41 = .ok (.iconst 0, 1) := by decide +kernel
theorem dX9_planned_42 : decode cX9_planned 42 = .ok (.istore 6, 2) := by decide +kernel
theorem dX9_planned_44 : decode cX9_planned 44 = .ok (.iconst 0, 1) := by decide +kernel
theorem dX9_planned_45 : decode cX9_planned 45 = .ok (.istore 7, 2) := by decide +kernel
theorem dX9_planned_47 : decode cX9_planned 47 = .ok (.iload 7, 2) := by decide +kernel
theorem dX9_planned_49 : decode cX9_planned 49 = .ok (.bipush 24, 2) := by decide +kernel
theorem dX9_planned_51 : decode cX9_planned 51 = .ok (.if_icmp .ge 133, 3) := by decide +kernel
theorem dX9_planned_54 : decode cX9_planned 54 = .ok (.aload_n 0, 1) := by decide +kernel
theorem dX9_planned_55 : decode cX9_planned 55 = .ok (.iload_n 3, 1) := by decide +kernel
theorem dX9_planned_56 : decode cX9_planned 56 = .ok (.iload 7, 2) := by decide +kernel
theorem dX9_planned_58 : decode cX9_planned 58 = .ok (.invokevirtual 190, 3) := by decide +kernel
theorem dX9_planned_61 : decode cX9_planned 61 = .ok (.istore 8, 2) := by decide +kernel
theorem dX9_planned_63 : decode cX9_planned 63 = .ok (.iload 8, 2) := by decide +kernel
theorem dX9_planned_65 : decode cX9_planned 65 = .ok (.ifCond .le 113, 3) := by decide +kernel
theorem dX9_planned_68 : decode cX9_planned 68 = .ok (.aload_n 0, 1) := by decide +kernel
theorem dX9_planned_69 : decode cX9_planned 69 = .ok (.getfield 7, 3) := by decide +kernel
theorem dX9_planned_72 : decode cX9_planned 72 = .ok (.bipush 24, 2) := by decide +kernel
theorem dX9_planned_74 : decode cX9_planned 74 = .ok (.iconst 5, 1) := by decide +kernel
theorem dX9_planned_75 : decode cX9_planned 75 = .ok (.iload_n 3, 1) := by decide +kernel
theorem dX9_planned_76 : decode cX9_planned 76 = .ok (.imul, 1) := by decide +kernel
theorem dX9_planned_77 : decode cX9_planned 77 = .ok (.iadd, 1) := by decide +kernel
theorem dX9_planned_78 : decode cX9_planned 78 = .ok (.iconst 4, 1) := by decide +kernel
theorem dX9_planned_79 : decode cX9_planned 79 = .ok (.iadd, 1) := by decide +kernel
theorem dX9_planned_80 : decode cX9_planned 80 = .ok (.iaload, 1) := by decide +kernel
theorem dX9_planned_81 : decode cX9_planned 81 = .ok (.aload_n 0, 1) := by decide +kernel
theorem dX9_planned_82 : decode cX9_planned 82 = .ok (.iload_n 3, 1) := by decide +kernel
theorem dX9_planned_83 : decode cX9_planned 83 = .ok (.iload 8, 2) := by decide +kernel
theorem dX9_planned_85 : decode cX9_planned 85 = .ok (.invokevirtual 93, 3) := by decide +kernel
theorem dX9_planned_88 : decode cX9_planned 88 = .ok (.if_icmp .lt 90, 3) := by decide +kernel
theorem dX9_planned_91 : decode cX9_planned 91 = .ok (.aload_n 0, 1) := by decide +kernel
theorem dX9_planned_92 : decode cX9_planned 92 = .ok (.iload_n 3, 1) := by decide +kernel
theorem dX9_planned_93 : decode cX9_planned 93 = .ok (.iload 7, 2) := by decide +kernel
theorem dX9_planned_95 : decode cX9_planned 95 = .ok (.bipush 6, 2) := by decide +kernel
theorem dX9_planned_97 : decode cX9_planned 97 = .ok (.idiv, 1) := by decide +kernel
theorem dX9_planned_98 : decode cX9_planned 98 = .ok (.iload 8, 2) := by decide +kernel
theorem dX9_planned_100 : decode cX9_planned 100 = .ok (.iload 7, 2) := by decide +kernel
theorem dX9_planned_102 : decode cX9_planned 102 = .ok (.iconst 2, 1) := by decide +kernel
theorem dX9_planned_103 : decode cX9_planned 103 = .ok (.irem, 1) := by decide +kernel
theorem dX9_planned_104 : decode cX9_planned 104 = .ok (.invokevirtual 99, 3) := by decide +kernel
theorem dX9_planned_107 : decode cX9_planned 107 = .ok (.pop, 1) := by decide +kernel
theorem dX9_planned_108 : decode cX9_planned 108 = .ok (.aload_n 0, 1) := by decide +kernel
theorem dX9_planned_109 : decode cX9_planned 109 = .ok (.getfield 32, 3) := by decide +kernel
theorem dX9_planned_112 : decode cX9_planned 112 = .ok (.iconst 0, 1) := by decide +kernel
theorem dX9_planned_113 : decode cX9_planned 113 = .ok (.aload_n 0, 1) := by decide +kernel
theorem dX9_planned_114 : decode cX9_planned 114 = .ok (.getfield 7, 3) := by decide +kernel
theorem dX9_planned_117 : decode cX9_planned 117 = .ok (.bipush 84, 2) := by decide +kernel
theorem dX9_planned_119 : decode cX9_planned 119 = .ok (.iconst 5, 1) := by decide +kernel
theorem dX9_planned_120 : decode cX9_planned 120 = .ok (.iload_n 1, 1) := by decide +kernel
theorem dX9_planned_121 : decode cX9_planned 121 = .ok (.imul, 1) := by decide +kernel
theorem dX9_planned_122 : decode cX9_planned 122 = .ok (.iadd, 1) := by decide +kernel
theorem dX9_planned_123 : decode cX9_planned 123 = .ok (.iconst 1, 1) := by decide +kernel
theorem dX9_planned_124 : decode cX9_planned 124 = .ok (.iadd, 1) := by decide +kernel
theorem dX9_planned_125 : decode cX9_planned 125 = .ok (.iaload, 1) := by decide +kernel
theorem dX9_planned_126 : decode cX9_planned 126 = .ok (.invokestatic 116, 3) := by decide +kernel
theorem dX9_planned_129 : decode cX9_planned 129 = .ok (.istore 9, 2) := by decide +kernel
theorem dX9_planned_131 : decode cX9_planned 131 = .ok (.aload_n 0, 1) := by decide +kernel
theorem dX9_planned_132 : decode cX9_planned 132 = .ok (.iload_n 3, 1) := by decide +kernel
theorem dX9_planned_133 : decode cX9_planned 133 = .ok (.iload 8, 2) := by decide +kernel
theorem dX9_planned_135 : decode cX9_planned 135 = .ok (.invokevirtual 96, 3) := by decide +kernel
theorem dX9_planned_138 : decode cX9_planned 138 = .ok (.istore 10, 2) := by decide +kernel
theorem dX9_planned_140 : decode cX9_planned 140 = .ok (.iload 9, 2) := by decide +kernel
theorem dX9_planned_142 : decode cX9_planned 142 = .ok (.iload 5, 2) := by decide +kernel
theorem dX9_planned_144 : decode cX9_planned 144 = .ok (.if_icmp .gt 22, 3) := by decide +kernel
theorem dX9_planned_147 : decode cX9_planned 147 = .ok (.iload 9, 2) := by decide +kernel
theorem dX9_planned_149 : decode cX9_planned 149 = .ok (.iload 5, 2) := by decide +kernel
theorem dX9_planned_151 : decode cX9_planned 151 = .ok (.if_icmp .ne 27, 3) := by decide +kernel
theorem dX9_planned_154 : decode cX9_planned 154 = .ok (.iload 9, 2) := by decide +kernel
theorem dX9_planned_156 : decode cX9_planned 156 = .ok (.ifCond .le 22, 3) := by decide +kernel
theorem dX9_planned_159 : decode cX9_planned 159 = .ok (.iload 10, 2) := by decide +kernel
theorem dX9_planned_161 : decode cX9_planned 161 = .ok (.iload 6, 2) := by decide +kernel
theorem dX9_planned_163 : decode cX9_planned 163 = .ok (.if_icmp .ge 15, 3) := by decide +kernel
theorem dX9_planned_166 : decode cX9_planned 166 = .ok (.iload 7, 2) := by decide +kernel
theorem dX9_planned_168 : decode cX9_planned 168 = .ok (.istore 4, 2) := by decide +kernel
theorem dX9_planned_170 : decode cX9_planned 170 = .ok (.iload 9, 2) := by decide +kernel
theorem dX9_planned_172 : decode cX9_planned 172 = .ok (.istore 5, 2) := by decide +kernel
theorem dX9_planned_174 : decode cX9_planned 174 = .ok (.iload 10, 2) := by decide +kernel
theorem dX9_planned_176 : decode cX9_planned 176 = .ok (.istore 6, 2) := by decide +kernel
theorem dX9_planned_178 : decode cX9_planned 178 = .ok (.iinc 7 1, 3) := by decide +kernel
theorem dX9_planned_181 : decode cX9_planned 181 = .ok (.goto (-134), 3) := by decide +kernel
theorem dX9_planned_184 : decode cX9_planned 184 = .ok (.iload 4, 2) := by decide +kernel
theorem dX9_planned_186 : decode cX9_planned 186 = .ok (.ifCond .ge 6, 3) := by decide +kernel
theorem dX9_planned_189 : decode cX9_planned 189 = .ok (.bipush (-6), 2) := by decide +kernel
theorem dX9_planned_191 : decode cX9_planned 191 = .ok (.ireturn, 1) := by decide +kernel
theorem dX9_planned_192 : decode cX9_planned 192 = .ok (.iload_n 2, 1) := by decide +kernel
theorem dX9_planned_193 : decode cX9_planned 193 = .ok (.ifCond .ne 11, 3) := by decide +kernel
theorem dX9_planned_196 : decode cX9_planned 196 = .ok (.iload 4, 2) := by decide +kernel
theorem dX9_planned_198 : decode cX9_planned 198 = .ok (.bipush 6, 2) := by decide +kernel
theorem dX9_planned_200 : decode cX9_planned 200 = .ok (.idiv, 1) := by decide +kernel
theorem dX9_planned_201 : decode cX9_planned 201 = .ok (.goto 42, 3) := by decide +kernel
theorem dX9_planned_204 : decode cX9_planned 204 = .ok (.iload_n 2, 1) := by decide +kernel
theorem dX9_planned_205 : decode cX9_planned 205 = .ok (.iconst 1, 1) := by decide +kernel
theorem dX9_planned_206 : decode cX9_planned 206 = .ok (.if_icmp .ne 13, 3) := by decide +kernel
theorem dX9_planned_209 : decode cX9_planned 209 = .ok (.aload_n 0, 1) := by decide +kernel
theorem dX9_planned_210 : decode cX9_planned 210 = .ok (.iload_n 3, 1) := by decide +kernel
theorem dX9_planned_211 : decode cX9_planned 211 = .ok (.iload 4, 2) := by decide +kernel
theorem dX9_planned_213 : decode cX9_planned 213 = .ok (.invokevirtual 190, 3) := by decide +kernel
theorem dX9_planned_216 : decode cX9_planned 216 = .ok (.goto 27, 3) := by decide +kernel
theorem dX9_planned_219 : decode cX9_planned 219 = .ok (.iload_n 2, 1) := by decide +kernel
theorem dX9_planned_220 : decode cX9_planned 220 = .ok (.iconst 2, 1) := by decide +kernel
theorem dX9_planned_221 : decode cX9_planned 221 = .ok (.if_icmp .ne 10, 3) := by decide +kernel
theorem dX9_planned_224 : decode cX9_planned 224 = .ok (.iload 4, 2) := by decide +kernel
theorem dX9_planned_226 : decode cX9_planned 226 = .ok (.iconst 2, 1) := by decide +kernel
theorem dX9_planned_227 : decode cX9_planned 227 = .ok (.irem, 1) := by decide +kernel
theorem dX9_planned_228 : decode cX9_planned 228 = .ok (.goto 15, 3) := by decide +kernel
theorem dX9_planned_231 : decode cX9_planned 231 = .ok (.iload_n 2, 1) := by decide +kernel
theorem dX9_planned_232 : decode cX9_planned 232 = .ok (.iconst 3, 1) := by decide +kernel
theorem dX9_planned_233 : decode cX9_planned 233 = .ok (.if_icmp .ne 8, 3) := by decide +kernel
theorem dX9_planned_236 : decode cX9_planned 236 = .ok (.iload 5, 2) := by decide +kernel
theorem dX9_planned_238 : decode cX9_planned 238 = .ok (.goto 5, 3) := by decide +kernel
theorem dX9_planned_241 : decode cX9_planned 241 = .ok (.iload 6, 2) := by decide +kernel
theorem dX9_planned_243 : decode cX9_planned 243 = .ok (.ireturn, 1) := by decide +kernel
theorem dX9_areCovered_0 : decode cX9_areCovered 0 = .ok (.iconst 1, 1) := by decide +kernel
theorem dX9_areCovered_1 : decode cX9_areCovered 1 = .ok (.istore_n 3, 1) := by decide +kernel
theorem dX9_areCovered_2 : decode cX9_areCovered 2 = .ok (.iconst 0, 1) := by decide +kernel
theorem dX9_areCovered_3 : decode cX9_areCovered 3 = .ok (.istore 4, 2) := by decide +kernel
theorem dX9_areCovered_5 : decode cX9_areCovered 5 = .ok (.iload 4, 2) := by decide +kernel
theorem dX9_areCovered_7 : decode cX9_areCovered 7 = .ok (.aload_n 0, 1) := by decide +kernel
theorem dX9_areCovered_8 : decode cX9_areCovered 8 = .ok (.getfield 7, 3) := by decide +kernel
theorem dX9_areCovered_11 : decode cX9_areCovered 11 = .ok (.iconst 3, 1) := by decide +kernel
theorem dX9_areCovered_12 : decode cX9_areCovered 12 = .ok (.iaload, 1) := by decide +kernel
theorem dX9_areCovered_13 : decode cX9_areCovered 13 = .ok (.if_icmp .ge 107, 3) := by decide +kernel
theorem dX9_areCovered_16 : decode cX9_areCovered 16 = .ok (.aload_n 0, 1) := by decide +kernel
theorem dX9_areCovered_17 : decode cX9_areCovered 17 = .ok (.getfield 7, 3) := by decide +kernel
theorem dX9_areCovered_20 : decode cX9_areCovered 20 = .ok (.bipush 84, 2) := by decide +kernel
theorem dX9_areCovered_22 : decode cX9_areCovered 22 = .ok (.iconst 5, 1) := by decide +kernel
theorem dX9_areCovered_23 : decode cX9_areCovered 23 = .ok (.iload 4, 2) := by decide +kernel
theorem dX9_areCovered_25 : decode cX9_areCovered 25 = .ok (.imul, 1) := by decide +kernel
theorem dX9_areCovered_26 : decode cX9_areCovered 26 = .ok (.iadd, 1) := by decide +kernel
theorem dX9_areCovered_27 : decode cX9_areCovered 27 = .ok (.iaload, 1) := by decide +kernel
theorem dX9_areCovered_28 : decode cX9_areCovered 28 = .ok (.iload_n 1, 1) := by decide +kernel
theorem dX9_areCovered_29 : decode cX9_areCovered 29 = .ok (.if_icmp .eq 7, 3) := by decide +kernel
theorem dX9_areCovered_32 : decode cX9_areCovered 32 = .ok (.iconst 1, 1) := by decide +kernel
theorem dX9_areCovered_33 : decode cX9_areCovered 33 = .ok (.goto 4, 3) := by decide +kernel
theorem dX9_areCovered_36 : decode cX9_areCovered 36 = .ok (.iconst 0, 1) := by decide +kernel
theorem dX9_areCovered_37 : decode cX9_areCovered 37 = .ok (.istore 5, 2) := by decide +kernel
theorem dX9_areCovered_39 : decode cX9_areCovered 39 = .ok (.iconst 1, 1) := by decide +kernel
theorem dX9_areCovered_40 : decode cX9_areCovered 40 = .ok (.istore 6, 2) := by decide +kernel
theorem dX9_areCovered_42 : decode cX9_areCovered 42 = .ok (.iload 6, 2) := by decide +kernel
theorem dX9_areCovered_44 : decode cX9_areCovered 44 = .ok (.bipush 16, 2) := by decide +kernel
theorem dX9_areCovered_46 : decode cX9_areCovered 46 = .ok (.if_icmp .ge 53, 3) := by decide +kernel
theorem dX9_areCovered_49 : decode cX9_areCovered 49 = .ok (.iload 5, 2) := by decide +kernel
theorem dX9_areCovered_51 : decode cX9_areCovered 51 = .ok (.ifCond .ne 35, 3) := by decide +kernel
theorem dX9_areCovered_54 : decode cX9_areCovered 54 = .ok (.iload_n 2, 1) := by decide +kernel
theorem dX9_areCovered_55 : decode cX9_areCovered 55 = .ok (.iload 6, 2) := by decide +kernel
theorem dX9_areCovered_57 : decode cX9_areCovered 57 = .ok (.ishr, 1) := by decide +kernel
theorem dX9_areCovered_58 : decode cX9_areCovered 58 = .ok (.iconst 1, 1) := by decide +kernel
theorem dX9_areCovered_59 : decode cX9_areCovered 59 = .ok (.iand, 1) := by decide +kernel
theorem dX9_areCovered_60 : decode cX9_areCovered 60 = .ok (.iconst 1, 1) := by decide +kernel
theorem dX9_areCovered_61 : decode cX9_areCovered 61 = .ok (.if_icmp .ne 29, 3) := by decide +kernel
theorem dX9_areCovered_64 : decode cX9_areCovered 64 = .ok (.aload_n 0, 1) := by decide +kernel
theorem dX9_areCovered_65 : decode cX9_areCovered 65 = .ok (.getfield 7, 3) := by decide +kernel
theorem dX9_areCovered_68 : decode cX9_areCovered 68 = .ok (.bipush 84, 2) := by decide +kernel
theorem dX9_areCovered_70 : decode cX9_areCovered 70 = .ok (.iconst 5, 1) := by decide +kernel
theorem dX9_areCovered_71 : decode cX9_areCovered 71 = .ok (.iload 4, 2) := by decide +kernel
theorem dX9_areCovered_73 : decode cX9_areCovered 73 = .ok (.imul, 1) := by decide +kernel
theorem dX9_areCovered_74 : decode cX9_areCovered 74 = .ok (.iadd, 1) := by decide +kernel
theorem dX9_areCovered_75 : decode cX9_areCovered 75 = .ok (.iconst 1, 1) := by decide +kernel
theorem dX9_areCovered_76 : decode cX9_areCovered 76 = .ok (.iadd, 1) := by decide +kernel
theorem dX9_areCovered_77 : decode cX9_areCovered 77 = .ok (.iaload, 1) := by decide +kernel
theorem dX9_areCovered_78 : decode cX9_areCovered 78 = .ok (.iload 6, 2) := by decide +kernel
theorem dX9_areCovered_80 : decode cX9_areCovered 80 = .ok (.iconst (-1), 1) := by decide +kernel
theorem dX9_areCovered_81 : decode cX9_areCovered 81 = .ok (.ixor, 1) := by decide +kernel
theorem dX9_areCovered_82 : decode cX9_areCovered 82 = .ok (.iand, 1) := by decide +kernel
theorem dX9_areCovered_83 : decode cX9_areCovered 83 = .ok (.ifCond .ne 7, 3) := by decide +kernel
theorem dX9_areCovered_86 : decode cX9_areCovered 86 = .ok (.iconst 1, 1) := by decide +kernel
theorem dX9_areCovered_87 : decode cX9_areCovered 87 = .ok (.goto 4, 3) := by decide +kernel
theorem dX9_areCovered_90 : decode cX9_areCovered 90 = .ok (.iconst 0, 1) := by decide +kernel
theorem dX9_areCovered_91 : decode cX9_areCovered 91 = .ok (.istore 5, 2) := by decide +kernel
theorem dX9_areCovered_93 : decode cX9_areCovered 93 = .ok (.iinc 6 1, 3) := by decide +kernel
theorem dX9_areCovered_96 : decode cX9_areCovered 96 = .ok (.goto (-54), 3) := by decide +kernel
theorem dX9_areCovered_99 : decode cX9_areCovered 99 = .ok (.iload_n 3, 1) := by decide +kernel
theorem dX9_areCovered_100 : decode cX9_areCovered 100 = .ok (.ifCond .eq 12, 3) := by decide +kernel
theorem dX9_areCovered_103 : decode cX9_areCovered 103 = .ok (.iload 5, 2) := by decide +kernel
theorem dX9_areCovered_105 : decode cX9_areCovered 105 = .ok (.ifCond .eq 7, 3) := by decide +kernel
theorem dX9_areCovered_108 : decode cX9_areCovered 108 = .ok (.iconst 1, 1) := by decide +kernel
theorem dX9_areCovered_109 : decode cX9_areCovered 109 = .ok (.goto 4, 3) := by decide +kernel
theorem dX9_areCovered_112 : decode cX9_areCovered 112 = .ok (.iconst 0, 1) := by decide +kernel
theorem dX9_areCovered_113 : decode cX9_areCovered 113 = .ok (.istore_n 3, 1) := by decide +kernel
theorem dX9_areCovered_114 : decode cX9_areCovered 114 = .ok (.iinc 4 1, 3) := by decide +kernel
theorem dX9_areCovered_117 : decode cX9_areCovered 117 = .ok (.goto (-112), 3) := by decide +kernel
theorem dX9_areCovered_120 : decode cX9_areCovered 120 = .ok (.iload_n 3, 1) := by decide +kernel
theorem dX9_areCovered_121 : decode cX9_areCovered 121 = .ok (.ireturn, 1) := by decide +kernel
theorem dX9_fewestPasses_0 : decode cX9_fewestPasses 0 = .ok (.aload_n 0, 1) := by decide +kernel
theorem dX9_fewestPasses_1 : decode cX9_fewestPasses 1 = .ok (.iconst 1, 1) := by decide +kernel
theorem dX9_fewestPasses_2 : decode cX9_fewestPasses 2 = .ok (.iload_n 1, 1) := by decide +kernel
theorem dX9_fewestPasses_3 : decode cX9_fewestPasses 3 = .ok (.invokevirtual 64, 3) := by decide +kernel
theorem dX9_fewestPasses_6 : decode cX9_fewestPasses 6 = .ok (.ifCond .ne 5, 3) := by decide +kernel
theorem dX9_fewestPasses_9 : decode cX9_fewestPasses 9 = .ok (.iconst (-1), 1) := by decide +kernel
theorem dX9_fewestPasses_10 : decode cX9_fewestPasses 10 = .ok (.ireturn, 1) := by decide +kernel
theorem dX9_fewestPasses_11 : decode cX9_fewestPasses 11 = .ok (.iload_n 2, 1) := by decide +kernel
theorem dX9_fewestPasses_12 : decode cX9_fewestPasses 12 = .ok (.iconst 1, 1) := by decide +kernel
theorem dX9_fewestPasses_13 : decode cX9_fewestPasses 13 = .ok (.bipush 100, 2) := by decide +kernel
theorem dX9_fewestPasses_15 : decode cX9_fewestPasses 15 = .ok (.invokestatic 42, 3) := by decide +kernel
theorem dX9_fewestPasses_18 : decode cX9_fewestPasses 18 = .ok (.ifCond .ne 6, 3) := by decide +kernel
theorem dX9_fewestPasses_21 : decode cX9_fewestPasses 21 = .ok (.bipush (-2), 2) := by decide +kernel
theorem dX9_fewestPasses_23 : decode cX9_fewestPasses 23 = .ok (.ireturn, 1) := by decide +kernel
theorem dX9_fewestPasses_24 : decode cX9_fewestPasses 24 = .ok (.iconst 0, 1) := by decide +kernel
theorem dX9_fewestPasses_25 : decode cX9_fewestPasses 25 = .ok (.istore_n 3, 1) := by decide +kernel
theorem dX9_fewestPasses_26 : decode cX9_fewestPasses 26 = .ok (.iconst 0, 1) := by decide +kernel
theorem dX9_fewestPasses_27 : decode cX9_fewestPasses 27 = .ok (.istore 4, 2) := by decide +kernel
theorem dX9_fewestPasses_29 : decode cX9_fewestPasses 29 = .ok (.iload 4, 2) := by decide +kernel
theorem dX9_fewestPasses_31 : decode cX9_fewestPasses 31 = .ok (.bipush 24, 2) := by decide +kernel
theorem dX9_fewestPasses_33 : decode cX9_fewestPasses 33 = .ok (.if_icmp .ge 89, 3) := by decide +kernel
theorem dX9_fewestPasses_36 : decode cX9_fewestPasses 36 = .ok (.aload_n 0, 1) := by decide +kernel
theorem dX9_fewestPasses_37 : decode cX9_fewestPasses 37 = .ok (.iload_n 1, 1) := by decide +kernel
theorem dX9_fewestPasses_38 : decode cX9_fewestPasses 38 = .ok (.iload 4, 2) := by decide +kernel
theorem dX9_fewestPasses_40 : decode cX9_fewestPasses 40 = .ok (.invokevirtual 190, 3) := by decide +kernel
theorem dX9_fewestPasses_43 : decode cX9_fewestPasses 43 = .ok (.istore 5, 2) := by decide +kernel
theorem dX9_fewestPasses_45 : decode cX9_fewestPasses 45 = .ok (.iload 5, 2) := by decide +kernel
theorem dX9_fewestPasses_47 : decode cX9_fewestPasses 47 = .ok (.ifCond .le 69, 3) := by decide +kernel
theorem dX9_fewestPasses_50 : decode cX9_fewestPasses 50 = .ok (.aload_n 0, 1) := by decide +kernel
theorem dX9_fewestPasses_51 : decode cX9_fewestPasses 51 = .ok (.iload_n 1, 1) := by decide +kernel
theorem dX9_fewestPasses_52 : decode cX9_fewestPasses 52 = .ok (.iload 4, 2) := by decide +kernel
theorem dX9_fewestPasses_54 : decode cX9_fewestPasses 54 = .ok (.bipush 6, 2) := by decide +kernel
theorem dX9_fewestPasses_56 : decode cX9_fewestPasses 56 = .ok (.idiv, 1) := by decide +kernel
theorem dX9_fewestPasses_57 : decode cX9_fewestPasses 57 = .ok (.iload 5, 2) := by decide +kernel
theorem dX9_fewestPasses_59 : decode cX9_fewestPasses 59 = .ok (.iload 4, 2) := by decide +kernel
theorem dX9_fewestPasses_61 : decode cX9_fewestPasses 61 = .ok (.iconst 2, 1) := by decide +kernel
theorem dX9_fewestPasses_62 : decode cX9_fewestPasses 62 = .ok (.irem, 1) := by decide +kernel
theorem dX9_fewestPasses_63 : decode cX9_fewestPasses 63 = .ok (.invokevirtual 99, 3) := by decide +kernel
theorem dX9_fewestPasses_66 : decode cX9_fewestPasses 66 = .ok (.pop, 1) := by decide +kernel
theorem dX9_fewestPasses_67 : decode cX9_fewestPasses 67 = .ok (.iconst 0, 1) := by decide +kernel
theorem dX9_fewestPasses_68 : decode cX9_fewestPasses 68 = .ok (.istore 6, 2) := by decide +kernel
theorem dX9_fewestPasses_70 : decode cX9_fewestPasses 70 = .ok (.iconst 0, 1) := by decide +kernel
theorem dX9_fewestPasses_71 : decode cX9_fewestPasses 71 = .ok (.istore 7, 2) := by decide +kernel
theorem dX9_fewestPasses_73 : decode cX9_fewestPasses 73 = .ok (.iload 7, 2) := by decide +kernel
theorem dX9_fewestPasses_75 : decode cX9_fewestPasses 75 = .ok (.iconst 4, 1) := by decide +kernel
theorem dX9_fewestPasses_76 : decode cX9_fewestPasses 76 = .ok (.if_icmp .ge 33, 3) := by decide +kernel
theorem dX9_fewestPasses_79 : decode cX9_fewestPasses 79 = .ok (.iload 6, 2) := by decide +kernel
theorem dX9_fewestPasses_81 : decode cX9_fewestPasses 81 = .ok (.aload_n 0, 1) := by decide +kernel
theorem dX9_fewestPasses_82 : decode cX9_fewestPasses 82 = .ok (.getfield 32, 3) := by decide +kernel
theorem dX9_fewestPasses_85 : decode cX9_fewestPasses 85 = .ok (.iload 7, 2) := by decide +kernel
theorem dX9_fewestPasses_87 : decode cX9_fewestPasses 87 = .ok (.iaload, 1) := by decide +kernel
theorem dX9_fewestPasses_88 : decode cX9_fewestPasses 88 = .ok (.iload_n 2, 1) := by decide +kernel
theorem dX9_fewestPasses_89 : decode cX9_fewestPasses 89 = .ok (.if_icmp .lt 10, 3) := by decide +kernel
theorem dX9_fewestPasses_92 : decode cX9_fewestPasses 92 = .ok (.iconst 1, 1) := by decide +kernel
theorem dX9_fewestPasses_93 : decode cX9_fewestPasses 93 = .ok (.iload 7, 2) := by decide +kernel
theorem dX9_fewestPasses_95 : decode cX9_fewestPasses 95 = .ok (.ishl, 1) := by decide +kernel
theorem dX9_fewestPasses_96 : decode cX9_fewestPasses 96 = .ok (.goto 4, 3) := by decide +kernel
theorem dX9_fewestPasses_99 : decode cX9_fewestPasses 99 = .ok (.iconst 0, 1) := by decide +kernel
theorem dX9_fewestPasses_100 : decode cX9_fewestPasses 100 = .ok (.ior, 1) := by decide +kernel
theorem dX9_fewestPasses_101 : decode cX9_fewestPasses 101 = .ok (.istore 6, 2) := by decide +kernel
theorem dX9_fewestPasses_103 : decode cX9_fewestPasses 103 = .ok (.iinc 7 1, 3) := by decide +kernel
theorem dX9_fewestPasses_106 : decode cX9_fewestPasses 106 = .ok (.goto (-33), 3) := by decide +kernel
theorem dX9_fewestPasses_109 : decode cX9_fewestPasses 109 = .ok (.iload_n 3, 1) := by decide +kernel
theorem dX9_fewestPasses_110 : decode cX9_fewestPasses 110 = .ok (.iconst 1, 1) := by decide +kernel
theorem dX9_fewestPasses_111 : decode cX9_fewestPasses 111 = .ok (.iload 6, 2) := by decide +kernel
theorem dX9_fewestPasses_113 : decode cX9_fewestPasses 113 = .ok (.ishl, 1) := by decide +kernel
theorem dX9_fewestPasses_114 : decode cX9_fewestPasses 114 = .ok (.ior, 1) := by decide +kernel
theorem dX9_fewestPasses_115 : decode cX9_fewestPasses 115 = .ok (.istore_n 3, 1) := by decide +kernel
theorem dX9_fewestPasses_116 : decode cX9_fewestPasses 116 = .ok (.iinc 4 1, 3) := by decide +kernel
theorem dX9_fewestPasses_119 : decode cX9_fewestPasses 119 = .ok (.goto (-90), 3) := by decide +kernel
theorem dX9_fewestPasses_122 : decode cX9_fewestPasses 122 = .ok (.bipush (-6), 2) := by decide +kernel
theorem dX9_fewestPasses_124 : decode cX9_fewestPasses 124 = .ok (.istore 4, 2) := by decide +kernel
theorem dX9_fewestPasses_126 : decode cX9_fewestPasses 126 = .ok (.iload_n 3, 1) := by decide +kernel
theorem dX9_fewestPasses_127 : decode cX9_fewestPasses 127 = .ok (.istore 5, 2) := by decide +kernel
theorem dX9_fewestPasses_129 : decode cX9_fewestPasses 129 = .ok (.iload 5, 2) := by decide +kernel
theorem dX9_fewestPasses_131 : decode cX9_fewestPasses 131 = .ok (.ifCond .lt 72, 3) := by decide +kernel
theorem dX9_fewestPasses_134 : decode cX9_fewestPasses 134 = .ok (.iload 4, 2) := by decide +kernel
theorem dX9_fewestPasses_136 : decode cX9_fewestPasses 136 = .ok (.ifCond .lt 13, 3) := by decide +kernel
theorem dX9_fewestPasses_139 : decode cX9_fewestPasses 139 = .ok (.iload 5, 2) := by decide +kernel
theorem dX9_fewestPasses_141 : decode cX9_fewestPasses 141 = .ok (.invokestatic 79, 3) := by decide +kernel
theorem dX9_fewestPasses_144 : decode cX9_fewestPasses 144 = .ok (.iload 4, 2) := by decide +kernel
theorem dX9_fewestPasses_146 : decode cX9_fewestPasses 146 = .ok (.if_icmp .ge 7, 3) := by decide +kernel
theorem dX9_fewestPasses_149 : decode cX9_fewestPasses 149 = .ok (.iconst 1, 1) := by decide +kernel
theorem dX9_fewestPasses_150 : decode cX9_fewestPasses 150 = .ok (.goto 4, 3) := by decide +kernel
theorem dX9_fewestPasses_153 : decode cX9_fewestPasses 153 = .ok (.iconst 0, 1) := by decide +kernel
theorem dX9_fewestPasses_154 : decode cX9_fewestPasses 154 = .ok (.istore 6, 2) := by decide +kernel
theorem dX9_fewestPasses_156 : decode cX9_fewestPasses 156 = .ok (.iload 6, 2) := by decide +kernel
theorem dX9_fewestPasses_158 : decode cX9_fewestPasses 158 = .ok (.ifCond .eq 21, 3) := by decide +kernel
theorem dX9_fewestPasses_161 : decode cX9_fewestPasses 161 = .ok (.aload_n 0, 1) := by decide +kernel
theorem dX9_fewestPasses_162 : decode cX9_fewestPasses 162 = .ok (.iload_n 1, 1) := by decide +kernel
theorem dX9_fewestPasses_163 : decode cX9_fewestPasses 163 = .ok (.iload 5, 2) := by decide +kernel
theorem dX9_fewestPasses_165 : decode cX9_fewestPasses 165 = .ok (.invokevirtual 193, 3) := by decide +kernel
theorem dX9_fewestPasses_168 : decode cX9_fewestPasses 168 = .ok (.ifCond .eq 11, 3) := by decide +kernel
theorem dX9_fewestPasses_171 : decode cX9_fewestPasses 171 = .ok (.iload 5, 2) := by decide +kernel
theorem dX9_fewestPasses_173 : decode cX9_fewestPasses 173 = .ok (.invokestatic 79, 3) := by decide +kernel
theorem dX9_fewestPasses_176 : decode cX9_fewestPasses 176 = .ok (.goto 5, 3) := by decide +kernel
theorem dX9_fewestPasses_179 : decode cX9_fewestPasses 179 = .ok (.iload 4, 2) := by decide +kernel
theorem dX9_fewestPasses_181 : decode cX9_fewestPasses 181 = .ok (.istore 4, 2) := by decide +kernel
theorem dX9_fewestPasses_183 : decode cX9_fewestPasses 183 = .ok (.iload 5, 2) := by decide +kernel
theorem dX9_fewestPasses_185 : decode cX9_fewestPasses 185 = .ok (.ifCond .ne 7, 3) := by decide +kernel
theorem dX9_fewestPasses_188 : decode cX9_fewestPasses 188 = .ok (.iconst (-1), 1) := by decide +kernel
theorem dX9_fewestPasses_189 : decode cX9_fewestPasses 189 = .ok (.goto 9, 3) := by decide +kernel
theorem dX9_fewestPasses_192 : decode cX9_fewestPasses 192 = .ok (.iload 5, 2) := by decide +kernel
theorem dX9_fewestPasses_194 : decode cX9_fewestPasses 194 = .ok (.iconst 1, 1) := by decide +kernel
theorem dX9_fewestPasses_195 : decode cX9_fewestPasses 195 = .ok (.isub, 1) := by decide +kernel
theorem dX9_fewestPasses_196 : decode cX9_fewestPasses 196 = .ok (.iload_n 3, 1) := by decide +kernel
theorem dX9_fewestPasses_197 : decode cX9_fewestPasses 197 = .ok (.iand, 1) := by decide +kernel
theorem dX9_fewestPasses_198 : decode cX9_fewestPasses 198 = .ok (.istore 5, 2) := by decide +kernel
theorem dX9_fewestPasses_200 : decode cX9_fewestPasses 200 = .ok (.goto (-71), 3) := by decide +kernel
theorem dX9_fewestPasses_203 : decode cX9_fewestPasses 203 = .ok (.iload 4, 2) := by decide +kernel
theorem dX9_fewestPasses_205 : decode cX9_fewestPasses 205 = .ok (.ireturn, 1) := by decide +kernel
