theorem dX8_init_0 : decode cX8_init 0 = .ok (.aload_n 0, 1) := by decide +kernel
theorem dX8_init_1 : decode cX8_init 1 = .ok (.invokespecial 1, 3) := by decide +kernel
theorem dX8_init_4 : decode cX8_init 4 = .ok (.aload_n 0, 1) := by decide +kernel
theorem dX8_init_5 : decode cX8_init 5 = .ok (.new 7, 3) := by decide +kernel
theorem dX8_init_8 : decode cX8_init 8 = .ok (.dup, 1) := by decide +kernel
theorem dX8_init_9 : decode cX8_init 9 = .ok (.invokespecial 9, 3) := by decide +kernel
theorem dX8_init_12 : decode cX8_init 12 = .ok (.putfield 10, 3) := by decide +kernel
theorem dX8_init_15 : decode cX8_init 15 = .ok (.aload_n 0, 1) := by decide +kernel
theorem dX8_init_16 : decode cX8_init 16 = .ok (.new 16, 3) := by decide +kernel
theorem dX8_init_19 : decode cX8_init 19 = .ok (.dup, 1) := by decide +kernel
theorem dX8_init_20 : decode cX8_init 20 = .ok (.invokespecial 18, 3) := by decide +kernel
theorem dX8_init_23 : decode cX8_init 23 = .ok (.putfield 19, 3) := by decide +kernel
theorem dX8_init_26 : decode cX8_init 26 = .ok (.aload_n 0, 1) := by decide +kernel
theorem dX8_init_27 : decode cX8_init 27 = .ok (.new 23, 3) := by decide +kernel
theorem dX8_init_30 : decode cX8_init 30 = .ok (.dup, 1) := by decide +kernel
theorem dX8_init_31 : decode cX8_init 31 = .ok (.invokespecial 25, 3) := by decide +kernel
theorem dX8_init_34 : decode cX8_init 34 = .ok (.putfield 26, 3) := by decide +kernel
theorem dX8_init_37 : decode cX8_init 37 = .ok (.aload_n 0, 1) := by decide +kernel
theorem dX8_init_38 : decode cX8_init 38 = .ok (.new 23, 3) := by decide +kernel
theorem dX8_init_41 : decode cX8_init 41 = .ok (.dup, 1) := by decide +kernel
theorem dX8_init_42 : decode cX8_init 42 = .ok (.invokespecial 25, 3) := by decide +kernel
theorem dX8_init_45 : decode cX8_init 45 = .ok (.putfield 30, 3) := by decide +kernel
theorem dX8_init_48 : decode cX8_init 48 = .ok (.aload_n 0, 1) := by decide +kernel
theorem dX8_init_49 : decode cX8_init 49 = .ok (.new 33, 3) := by decide +kernel
theorem dX8_init_52 : decode cX8_init 52 = .ok (.dup, 1) := by decide +kernel
theorem dX8_init_53 : decode cX8_init 53 = .ok (.invokespecial 35, 3) := by decide +kernel
theorem dX8_init_56 : decode cX8_init 56 = .ok (.putfield 36, 3) := by decide +kernel
theorem dX8_init_59 : decode cX8_init 59 = .ok (.aload_n 0, 1) := by decide +kernel
theorem dX8_init_60 : decode cX8_init 60 = .ok (.new 40, 3) := by decide +kernel
theorem dX8_init_63 : decode cX8_init 63 = .ok (.dup, 1) := by decide +kernel
theorem dX8_init_64 : decode cX8_init 64 = .ok (.invokespecial 42, 3) := by decide +kernel
theorem dX8_init_67 : decode cX8_init 67 = .ok (.putfield 43, 3) := by decide +kernel
theorem dX8_init_70 : decode cX8_init 70 = .ok (.aload_n 0, 1) := by decide +kernel
theorem dX8_init_71 : decode cX8_init 71 = .ok (.iconst 5, 1) := by decide +kernel
theorem dX8_init_72 : decode cX8_init 72 = .ok (.newarray .int, 2) := by decide +kernel
theorem dX8_init_74 : decode cX8_init 74 = .ok (.putfield 47, 3) := by decide +kernel
theorem dX8_init_77 : decode cX8_init 77 = .ok (.return_, 1) := by decide +kernel
theorem dX8_addCarrier_0 : decode cX8_addCarrier 0 = .ok (.iload_n 1, 1) := by decide +kernel
theorem dX8_addCarrier_1 : decode cX8_addCarrier 1 = .ok (.iload_n 3, 1) := by decide +kernel
theorem dX8_addCarrier_2 : decode cX8_addCarrier 2 = .ok (.invokestatic 51, 3) := by decide +kernel
theorem dX8_addCarrier_5 : decode cX8_addCarrier 5 = .ok (.ifCond .eq 34, 3) := by decide +kernel
theorem dX8_addCarrier_8 : decode cX8_addCarrier 8 = .ok (.iload_n 1, 1) := by decide +kernel
theorem dX8_addCarrier_9 : decode cX8_addCarrier 9 = .ok (.iload_n 2, 1) := by decide +kernel
theorem dX8_addCarrier_10 : decode cX8_addCarrier 10 = .ok (.invokestatic 57, 3) := by decide +kernel
theorem dX8_addCarrier_13 : decode cX8_addCarrier 13 = .ok (.ifCond .lt 26, 3) := by decide +kernel
theorem dX8_addCarrier_16 : decode cX8_addCarrier 16 = .ok (.iload 4, 2) := by decide +kernel
theorem dX8_addCarrier_18 : decode cX8_addCarrier 18 = .ok (.iconst 1, 1) := by decide +kernel
theorem dX8_addCarrier_19 : decode cX8_addCarrier 19 = .ok (.sipush 3600, 3) := by decide +kernel
theorem dX8_addCarrier_22 : decode cX8_addCarrier 22 = .ok (.invokestatic 61, 3) := by decide +kernel
theorem dX8_addCarrier_25 : decode cX8_addCarrier 25 = .ok (.ifCond .eq 14, 3) := by decide +kernel
theorem dX8_addCarrier_28 : decode cX8_addCarrier 28 = .ok (.iload 5, 2) := by decide +kernel
theorem dX8_addCarrier_30 : decode cX8_addCarrier 30 = .ok (.iconst 1, 1) := by decide +kernel
theorem dX8_addCarrier_31 : decode cX8_addCarrier 31 = .ok (.bipush 99, 2) := by decide +kernel
theorem dX8_addCarrier_33 : decode cX8_addCarrier 33 = .ok (.invokestatic 61, 3) := by decide +kernel
theorem dX8_addCarrier_36 : decode cX8_addCarrier 36 = .ok (.ifCond .ne 6, 3) := by decide +kernel
theorem dX8_addCarrier_39 : decode cX8_addCarrier 39 = .ok (.bipush (-2), 2) := by decide +kernel
theorem dX8_addCarrier_41 : decode cX8_addCarrier 41 = .ok (.ireturn, 1) := by decide +kernel
theorem dX8_addCarrier_42 : decode cX8_addCarrier 42 = .ok (.aload_n 0, 1) := by decide +kernel
theorem dX8_addCarrier_43 : decode cX8_addCarrier 43 = .ok (.getfield 10, 3) := by decide +kernel
theorem dX8_addCarrier_46 : decode cX8_addCarrier 46 = .ok (.getfield 65, 3) := by decide +kernel
theorem dX8_addCarrier_49 : decode cX8_addCarrier 49 = .ok (.invokevirtual 69, 3) := by decide +kernel
theorem dX8_addCarrier_52 : decode cX8_addCarrier 52 = .ok (.ifCond .eq 6, 3) := by decide +kernel
theorem dX8_addCarrier_55 : decode cX8_addCarrier 55 = .ok (.bipush (-4), 2) := by decide +kernel
theorem dX8_addCarrier_57 : decode cX8_addCarrier 57 = .ok (.ireturn, 1) := by decide +kernel
theorem dX8_addCarrier_58 : decode cX8_addCarrier 58 = .ok (.aload_n 0, 1) := by decide +kernel
theorem dX8_addCarrier_59 : decode cX8_addCarrier 59 = .ok (.getfield 19, 3) := by decide +kernel
theorem dX8_addCarrier_62 : decode cX8_addCarrier 62 = .ok (.aload_n 0, 1) := by decide +kernel
theorem dX8_addCarrier_63 : decode cX8_addCarrier 63 = .ok (.getfield 10, 3) := by decide +kernel
theorem dX8_addCarrier_66 : decode cX8_addCarrier 66 = .ok (.invokevirtual 75, 3) := by decide +kernel
theorem dX8_addCarrier_69 : decode cX8_addCarrier 69 = .ok (.aload_n 0, 1) := by decide +kernel
theorem dX8_addCarrier_70 : decode cX8_addCarrier 70 = .ok (.getfield 10, 3) := by decide +kernel
theorem dX8_addCarrier_73 : decode cX8_addCarrier 73 = .ok (.getfield 65, 3) := by decide +kernel
theorem dX8_addCarrier_76 : decode cX8_addCarrier 76 = .ok (.invokevirtual 79, 3) := by decide +kernel
theorem dX8_addCarrier_79 : decode cX8_addCarrier 79 = .ok (.istore 6, 2) := by decide +kernel
theorem dX8_addCarrier_81 : decode cX8_addCarrier 81 = .ok (.aload_n 0, 1) := by decide +kernel
theorem dX8_addCarrier_82 : decode cX8_addCarrier 82 = .ok (.getfield 10, 3) := by decide +kernel
theorem dX8_addCarrier_85 : decode cX8_addCarrier 85 = .ok (.getfield 65, 3) := by decide +kernel
theorem dX8_addCarrier_88 : decode cX8_addCarrier 88 = .ok (.iload 6, 2) := by decide +kernel
theorem dX8_addCarrier_90 : decode cX8_addCarrier 90 = .ok (.iconst 0, 1) := by decide +kernel
theorem dX8_addCarrier_91 : decode cX8_addCarrier 91 = .ok (.iload_n 1, 1) := by decide +kernel
theorem dX8_addCarrier_92 : decode cX8_addCarrier 92 = .ok (.invokevirtual 83, 3) := by decide +kernel
theorem dX8_addCarrier_95 : decode cX8_addCarrier 95 = .ok (.aload_n 0, 1) := by decide +kernel
theorem dX8_addCarrier_96 : decode cX8_addCarrier 96 = .ok (.getfield 10, 3) := by decide +kernel
theorem dX8_addCarrier_99 : decode cX8_addCarrier 99 = .ok (.getfield 65, 3) := by decide +kernel
theorem dX8_addCarrier_102 : decode cX8_addCarrier 102 = .ok (.iload 6, 2) := by decide +kernel
theorem dX8_addCarrier_104 : decode cX8_addCarrier 104 = .ok (.iconst 1, 1) := by decide +kernel
theorem dX8_addCarrier_105 : decode cX8_addCarrier 105 = .ok (.iload_n 2, 1) := by decide +kernel
theorem dX8_addCarrier_106 : decode cX8_addCarrier 106 = .ok (.invokevirtual 83, 3) := by decide +kernel
theorem dX8_addCarrier_109 : decode cX8_addCarrier 109 = .ok (.aload_n 0, 1) := by decide +kernel
theorem dX8_addCarrier_110 : decode cX8_addCarrier 110 = .ok (.getfield 10, 3) := by decide +kernel
theorem dX8_addCarrier_113 : decode cX8_addCarrier 113 = .ok (.getfield 65, 3) := by decide +kernel
theorem dX8_addCarrier_116 : decode cX8_addCarrier 116 = .ok (.iload 6, 2) := by decide +kernel
theorem dX8_addCarrier_118 : decode cX8_addCarrier 118 = .ok (.iconst 2, 1) := by decide +kernel
theorem dX8_addCarrier_119 : decode cX8_addCarrier 119 = .ok (.iload_n 3, 1) := by decide +kernel
theorem dX8_addCarrier_120 : decode cX8_addCarrier 120 = .ok (.invokevirtual 83, 3) := by decide +kernel
theorem dX8_addCarrier_123 : decode cX8_addCarrier 123 = .ok (.aload_n 0, 1) := by decide +kernel
theorem dX8_addCarrier_124 : decode cX8_addCarrier 124 = .ok (.getfield 10, 3) := by decide +kernel
theorem dX8_addCarrier_127 : decode cX8_addCarrier 127 = .ok (.getfield 65, 3) := by decide +kernel
theorem dX8_addCarrier_130 : decode cX8_addCarrier 130 = .ok (.iload 6, 2) := by decide +kernel
theorem dX8_addCarrier_132 : decode cX8_addCarrier 132 = .ok (.iconst 3, 1) := by decide +kernel
theorem dX8_addCarrier_133 : decode cX8_addCarrier 133 = .ok (.iload 4, 2) := by decide +kernel
theorem dX8_addCarrier_135 : decode cX8_addCarrier 135 = .ok (.invokevirtual 83, 3) := by decide +kernel
theorem dX8_addCarrier_138 : decode cX8_addCarrier 138 = .ok (.aload_n 0, 1) := by decide +kernel
theorem dX8_addCarrier_139 : decode cX8_addCarrier 139 = .ok (.getfield 10, 3) := by decide +kernel
theorem dX8_addCarrier_142 : decode cX8_addCarrier 142 = .ok (.getfield 65, 3) := by decide +kernel
theorem dX8_addCarrier_145 : decode cX8_addCarrier 145 = .ok (.iload 6, 2) := by decide +kernel
theorem dX8_addCarrier_147 : decode cX8_addCarrier 147 = .ok (.iconst 4, 1) := by decide +kernel
theorem dX8_addCarrier_148 : decode cX8_addCarrier 148 = .ok (.iload 5, 2) := by decide +kernel
theorem dX8_addCarrier_150 : decode cX8_addCarrier 150 = .ok (.invokevirtual 83, 3) := by decide +kernel
theorem dX8_addCarrier_153 : decode cX8_addCarrier 153 = .ok (.iload 6, 2) := by decide +kernel
theorem dX8_addCarrier_155 : decode cX8_addCarrier 155 = .ok (.ireturn, 1) := by decide +kernel
theorem dX8_addMachine_0 : decode cX8_addMachine 0 = .ok (.iload_n 1, 1) := by decide +kernel
theorem dX8_addMachine_1 : decode cX8_addMachine 1 = .ok (.iload_n 3, 1) := by decide +kernel
theorem dX8_addMachine_2 : decode cX8_addMachine 2 = .ok (.invokestatic 51, 3) := by decide +kernel
theorem dX8_addMachine_5 : decode cX8_addMachine 5 = .ok (.ifCond .eq 26, 3) := by decide +kernel
theorem dX8_addMachine_8 : decode cX8_addMachine 8 = .ok (.iload_n 2, 1) := by decide +kernel
theorem dX8_addMachine_9 : decode cX8_addMachine 9 = .ok (.iconst 1, 1) := by decide +kernel
theorem dX8_addMachine_10 : decode cX8_addMachine 10 = .ok (.iload_n 1, 1) := by decide +kernel
theorem dX8_addMachine_11 : decode cX8_addMachine 11 = .ok (.invokestatic 87, 3) := by decide +kernel
theorem dX8_addMachine_14 : decode cX8_addMachine 14 = .ok (.invokestatic 61, 3) := by decide +kernel
theorem dX8_addMachine_17 : decode cX8_addMachine 17 = .ok (.ifCond .eq 14, 3) := by decide +kernel
theorem dX8_addMachine_20 : decode cX8_addMachine 20 = .ok (.iload 4, 2) := by decide +kernel
theorem dX8_addMachine_22 : decode cX8_addMachine 22 = .ok (.iconst 1, 1) := by decide +kernel
theorem dX8_addMachine_23 : decode cX8_addMachine 23 = .ok (.bipush 100, 2) := by decide +kernel
theorem dX8_addMachine_25 : decode cX8_addMachine 25 = .ok (.invokestatic 61, 3) := by decide +kernel
theorem dX8_addMachine_28 : decode cX8_addMachine 28 = .ok (.ifCond .ne 6, 3) := by decide +kernel
theorem dX8_addMachine_31 : decode cX8_addMachine 31 = .ok (.bipush (-2), 2) := by decide +kernel
theorem dX8_addMachine_33 : decode cX8_addMachine 33 = .ok (.ireturn, 1) := by decide +kernel
theorem dX8_addMachine_34 : decode cX8_addMachine 34 = .ok (.aload_n 0, 1) := by decide +kernel
theorem dX8_addMachine_35 : decode cX8_addMachine 35 = .ok (.getfield 10, 3) := by decide +kernel
theorem dX8_addMachine_38 : decode cX8_addMachine 38 = .ok (.getfield 91, 3) := by decide +kernel
theorem dX8_addMachine_41 : decode cX8_addMachine 41 = .ok (.invokevirtual 69, 3) := by decide +kernel
theorem dX8_addMachine_44 : decode cX8_addMachine 44 = .ok (.ifCond .eq 6, 3) := by decide +kernel
theorem dX8_addMachine_47 : decode cX8_addMachine 47 = .ok (.bipush (-4), 2) := by decide +kernel
theorem dX8_addMachine_49 : decode cX8_addMachine 49 = .ok (.ireturn, 1) := by decide +kernel
theorem dX8_addMachine_50 : decode cX8_addMachine 50 = .ok (.aload_n 0, 1) := by decide +kernel
theorem dX8_addMachine_51 : decode cX8_addMachine 51 = .ok (.getfield 19, 3) := by decide +kernel
theorem dX8_addMachine_54 : decode cX8_addMachine 54 = .ok (.aload_n 0, 1) := by decide +kernel
theorem dX8_addMachine_55 : decode cX8_addMachine 55 = .ok (.getfield 10, 3) := by decide +kernel
theorem dX8_addMachine_58 : decode cX8_addMachine 58 = .ok (.invokevirtual 75, 3) := by decide +kernel
theorem dX8_addMachine_61 : decode cX8_addMachine 61 = .ok (.aload_n 0, 1) := by decide +kernel
theorem dX8_addMachine_62 : decode cX8_addMachine 62 = .ok (.getfield 10, 3) := by decide +kernel
theorem dX8_addMachine_65 : decode cX8_addMachine 65 = .ok (.getfield 91, 3) := by decide +kernel
theorem dX8_addMachine_68 : decode cX8_addMachine 68 = .ok (.invokevirtual 79, 3) := by decide +kernel
theorem dX8_addMachine_71 : decode cX8_addMachine 71 = .ok (.istore 5, 2) := by decide +kernel
theorem dX8_addMachine_73 : decode cX8_addMachine 73 = .ok (.aload_n 0, 1) := by decide +kernel
theorem dX8_addMachine_74 : decode cX8_addMachine 74 = .ok (.getfield 10, 3) := by decide +kernel
theorem dX8_addMachine_77 : decode cX8_addMachine 77 = .ok (.getfield 91, 3) := by decide +kernel
theorem dX8_addMachine_80 : decode cX8_addMachine 80 = .ok (.iload 5, 2) := by decide +kernel
theorem dX8_addMachine_82 : decode cX8_addMachine 82 = .ok (.iconst 0, 1) := by decide +kernel
theorem dX8_addMachine_83 : decode cX8_addMachine 83 = .ok (.iload_n 1, 1) := by decide +kernel
theorem dX8_addMachine_84 : decode cX8_addMachine 84 = .ok (.invokevirtual 83, 3) := by decide +kernel
theorem dX8_addMachine_87 : decode cX8_addMachine 87 = .ok (.aload_n 0, 1) := by decide +kernel
theorem dX8_addMachine_88 : decode cX8_addMachine 88 = .ok (.getfield 10, 3) := by decide +kernel
theorem dX8_addMachine_91 : decode cX8_addMachine 91 = .ok (.getfield 91, 3) := by decide +kernel
theorem dX8_addMachine_94 : decode cX8_addMachine 94 = .ok (.iload 5, 2) := by decide +kernel
theorem dX8_addMachine_96 : decode cX8_addMachine 96 = .ok (.iconst 1, 1) := by decide +kernel
theorem dX8_addMachine_97 : decode cX8_addMachine 97 = .ok (.iload_n 2, 1) := by decide +kernel
theorem dX8_addMachine_98 : decode cX8_addMachine 98 = .ok (.invokevirtual 83, 3) := by decide +kernel
theorem dX8_addMachine_101 : decode cX8_addMachine 101 = .ok (.aload_n 0, 1) := by decide +kernel
theorem dX8_addMachine_102 : decode cX8_addMachine 102 = .ok (.getfield 10, 3) := by decide +kernel
theorem dX8_addMachine_105 : decode cX8_addMachine 105 = .ok (.getfield 91, 3) := by decide +kernel
theorem dX8_addMachine_108 : decode cX8_addMachine 108 = .ok (.iload 5, 2) := by decide +kernel
theorem dX8_addMachine_110 : decode cX8_addMachine 110 = .ok (.iconst 2, 1) := by decide +kernel
theorem dX8_addMachine_111 : decode cX8_addMachine 111 = .ok (.iload_n 3, 1) := by decide +kernel
theorem dX8_addMachine_112 : decode cX8_addMachine 112 = .ok (.invokevirtual 83, 3) := by decide +kernel
theorem dX8_addMachine_115 : decode cX8_addMachine 115 = .ok (.aload_n 0, 1) := by decide +kernel
theorem dX8_addMachine_116 : decode cX8_addMachine 116 = .ok (.getfield 10, 3) := by decide +kernel
theorem dX8_addMachine_119 : decode cX8_addMachine 119 = .ok (.getfield 91, 3) := by decide +kernel
theorem dX8_addMachine_122 : decode cX8_addMachine 122 = .ok (.iload 5, 2) := by decide +kernel
theorem dX8_addMachine_124 : decode cX8_addMachine 124 = .ok (.iconst 3, 1) := by decide +kernel
theorem dX8_addMachine_125 : decode cX8_addMachine 125 = .ok (.iload 4, 2) := by decide +kernel
theorem dX8_addMachine_127 : decode cX8_addMachine 127 = .ok (.invokevirtual 83, 3) := by decide +kernel
theorem dX8_addMachine_130 : decode cX8_addMachine 130 = .ok (.aload_n 0, 1) := by decide +kernel
theorem dX8_addMachine_131 : decode cX8_addMachine 131 = .ok (.getfield 10, 3) := by decide +kernel
theorem dX8_addMachine_134 : decode cX8_addMachine 134 = .ok (.getfield 91, 3) := by decide +kernel
theorem dX8_addMachine_137 : decode cX8_addMachine 137 = .ok (.iload 5, 2) := by decide +kernel
theorem dX8_addMachine_139 : decode cX8_addMachine 139 = .ok (.iconst 4, 1) := by decide +kernel
theorem dX8_addMachine_140 : decode cX8_addMachine 140 = .ok (.sipush 28800, 3) := by decide +kernel
theorem dX8_addMachine_143 : decode cX8_addMachine 143 = .ok (.invokevirtual 83, 3) := by decide +kernel
theorem dX8_addMachine_146 : decode cX8_addMachine 146 = .ok (.iload 5, 2) := by decide +kernel
theorem dX8_addMachine_148 : decode cX8_addMachine 148 = .ok (.ireturn, 1) := by decide +kernel
theorem dX8_addRecording_0 : decode cX8_addRecording 0 = .ok (.aload_n 0, 1) := by decide +kernel
theorem dX8_addRecording_1 : decode cX8_addRecording 1 = .ok (.getfield 10, 3) := by decide +kernel
theorem dX8_addRecording_4 : decode cX8_addRecording 4 = .ok (.getfield 65, 3) := by decide +kernel
theorem dX8_addRecording_7 : decode cX8_addRecording 7 = .ok (.iload_n 1, 1) := by decide +kernel
theorem dX8_addRecording_8 : decode cX8_addRecording 8 = .ok (.invokevirtual 94, 3) := by decide +kernel
theorem dX8_addRecording_11 : decode cX8_addRecording 11 = .ok (.ifCond .ne 5, 3) := by decide +kernel
theorem dX8_addRecording_14 : decode cX8_addRecording 14 = .ok (.iconst (-1), 1) := by decide +kernel
theorem dX8_addRecording_15 : decode cX8_addRecording 15 = .ok (.ireturn, 1) := by decide +kernel
theorem dX8_addRecording_16 : decode cX8_addRecording 16 = .ok (.aload_n 0, 1) := by decide +kernel
theorem dX8_addRecording_17 : decode cX8_addRecording 17 = .ok (.getfield 10, 3) := by decide +kernel
theorem dX8_addRecording_20 : decode cX8_addRecording 20 = .ok (.getfield 65, 3) := by decide +kernel
theorem dX8_addRecording_23 : decode cX8_addRecording 23 = .ok (.iload_n 1, 1) := by decide +kernel
theorem dX8_addRecording_24 : decode cX8_addRecording 24 = .ok (.iconst 2, 1) := by decide +kernel
theorem dX8_addRecording_25 : decode cX8_addRecording 25 = .ok (.invokevirtual 98, 3) := by decide +kernel
theorem dX8_addRecording_28 : decode cX8_addRecording 28 = .ok (.iload_n 2, 1) := by decide +kernel
theorem dX8_addRecording_29 : decode cX8_addRecording 29 = .ok (.invokestatic 101, 3) := by decide +kernel
theorem dX8_addRecording_32 : decode cX8_addRecording 32 = .ok (.istore 5, 2) := by decide +kernel
theorem dX8_addRecording_34 : decode cX8_addRecording 34 = .ok (.iload 5, 2) := by decide +kernel
theorem dX8_addRecording_36 : decode cX8_addRecording 36 = .ok (.ifCond .lt 24, 3) := by decide +kernel
theorem dX8_addRecording_39 : decode cX8_addRecording 39 = .ok (.iload_n 3, 1) := by decide +kernel
theorem dX8_addRecording_40 : decode cX8_addRecording 40 = .ok (.iload 4, 2) := by decide +kernel
theorem dX8_addRecording_42 : decode cX8_addRecording 42 = .ok (.aload_n 0, 1) := by decide +kernel
theorem dX8_addRecording_43 : decode cX8_addRecording 43 = .ok (.getfield 10, 3) := by decide +kernel
theorem dX8_addRecording_46 : decode cX8_addRecording 46 = .ok (.getfield 65, 3) := by decide +kernel
theorem dX8_addRecording_49 : decode cX8_addRecording 49 = .ok (.iload_n 1, 1) := by decide +kernel
theorem dX8_addRecording_50 : decode cX8_addRecording 50 = .ok (.iconst 3, 1) := by decide +kernel
theorem dX8_addRecording_51 : decode cX8_addRecording 51 = .ok (.invokevirtual 98, 3) := by decide +kernel
theorem dX8_addRecording_54 : decode cX8_addRecording 54 = .ok (.invokestatic 106, 3) := by decide +kernel
theorem dX8_addRecording_57 : decode cX8_addRecording 57 = .ok (.ifCond .ne 6, 3) := by decide +kernel
theorem dX8_addRecording_60 : decode cX8_addRecording 60 = .ok (.bipush (-2), 2) := by decide +kernel
theorem dX8_addRecording_62 : decode cX8_addRecording 62 = .ok (.ireturn, 1) := by decide +kernel
theorem dX8_addRecording_63 : decode cX8_addRecording 63 = .ok (.aload_n 0, 1) := by decide +kernel
theorem dX8_addRecording_64 : decode cX8_addRecording 64 = .ok (.getfield 10, 3) := by decide +kernel
theorem dX8_addRecording_67 : decode cX8_addRecording 67 = .ok (.getfield 109, 3) := by decide +kernel
theorem dX8_addRecording_70 : decode cX8_addRecording 70 = .ok (.invokevirtual 69, 3) := by decide +kernel
theorem dX8_addRecording_73 : decode cX8_addRecording 73 = .ok (.ifCond .eq 6, 3) := by decide +kernel
theorem dX8_addRecording_76 : decode cX8_addRecording 76 = .ok (.bipush (-4), 2) := by decide +kernel
theorem dX8_addRecording_78 : decode cX8_addRecording 78 = .ok (.ireturn, 1) := by decide +kernel
theorem dX8_addRecording_79 : decode cX8_addRecording 79 = .ok (.aload_n 0, 1) := by decide +kernel
theorem dX8_addRecording_80 : decode cX8_addRecording 80 = .ok (.iload_n 1, 1) := by decide +kernel
theorem dX8_addRecording_81 : decode cX8_addRecording 81 = .ok (.iload_n 2, 1) := by decide +kernel
theorem dX8_addRecording_82 : decode cX8_addRecording 82 = .ok (.iload_n 3, 1) := by decide +kernel
theorem dX8_addRecording_83 : decode cX8_addRecording 83 = .ok (.iload 4, 2) := by decide +kernel
theorem dX8_addRecording_85 : decode cX8_addRecording 85 = .ok (.invokevirtual 112, 3) := by decide +kernel
theorem dX8_addRecording_88 : decode cX8_addRecording 88 = .ok (.ifCond .eq 6, 3) := by decide +kernel
theorem dX8_addRecording_91 : decode cX8_addRecording 91 = .ok (.bipush (-3), 2) := by decide +kernel
theorem dX8_addRecording_93 : decode cX8_addRecording 93 = .ok (.ireturn, 1) := by decide +kernel
theorem dX8_addRecording_94 : decode cX8_addRecording 94 = .ok (.aload_n 0, 1) := by decide +kernel
theorem dX8_addRecording_95 : decode cX8_addRecording 95 = .ok (.getfield 19, 3) := by decide +kernel
theorem dX8_addRecording_98 : decode cX8_addRecording 98 = .ok (.aload_n 0, 1) := by decide +kernel
theorem dX8_addRecording_99 : decode cX8_addRecording 99 = .ok (.getfield 10, 3) := by decide +kernel
theorem dX8_addRecording_102 : decode cX8_addRecording 102 = .ok (.invokevirtual 75, 3) := by decide +kernel
theorem dX8_addRecording_105 : decode cX8_addRecording 105 = .ok (.aload_n 0, 1) := by decide +kernel
theorem dX8_addRecording_106 : decode cX8_addRecording 106 = .ok (.getfield 10, 3) := by decide +kernel
theorem dX8_addRecording_109 : decode cX8_addRecording 109 = .ok (.getfield 109, 3) := by decide +kernel
theorem dX8_addRecording_112 : decode cX8_addRecording 112 = .ok (.invokevirtual 79, 3) := by decide +kernel
theorem dX8_addRecording_115 : decode cX8_addRecording 115 = .ok (.istore 6, 2) := by decide +kernel
theorem dX8_addRecording_117 : decode cX8_addRecording 117 = .ok (.aload_n 0, 1) := by decide +kernel
theorem dX8_addRecording_118 : decode cX8_addRecording 118 = .ok (.getfield 10, 3) := by decide +kernel
theorem dX8_addRecording_121 : decode cX8_addRecording 121 = .ok (.getfield 109, 3) := by decide +kernel
theorem dX8_addRecording_124 : decode cX8_addRecording 124 = .ok (.iload 6, 2) := by decide +kernel
theorem dX8_addRecording_126 : decode cX8_addRecording 126 = .ok (.iconst 0, 1) := by decide +kernel
theorem dX8_addRecording_127 : decode cX8_addRecording 127 = .ok (.iload_n 1, 1) := by decide +kernel
theorem dX8_addRecording_128 : decode cX8_addRecording 128 = .ok (.invokevirtual 83, 3) := by decide +kernel
theorem dX8_addRecording_131 : decode cX8_addRecording 131 = .ok (.aload_n 0, 1) := by decide +kernel
theorem dX8_addRecording_132 : decode cX8_addRecording 132 = .ok (.getfield 10, 3) := by decide +kernel
theorem dX8_addRecording_135 : decode cX8_addRecording 135 = .ok (.getfield 109, 3) := by decide +kernel
theorem dX8_addRecording_138 : decode cX8_addRecording 138 = .ok (.iload 6, 2) := by decide +kernel
theorem dX8_addRecording_140 : decode cX8_addRecording 140 = .ok (.iconst 1, 1) := by decide +kernel
theorem dX8_addRecording_141 : decode cX8_addRecording 141 = .ok (.iload_n 2, 1) := by decide +kernel
theorem dX8_addRecording_142 : decode cX8_addRecording 142 = .ok (.invokevirtual 83, 3) := by decide +kernel
theorem dX8_addRecording_145 : decode cX8_addRecording 145 = .ok (.aload_n 0, 1) := by decide +kernel
theorem dX8_addRecording_146 : decode cX8_addRecording 146 = .ok (.getfield 10, 3) := by decide +kernel
theorem dX8_addRecording_149 : decode cX8_addRecording 149 = .ok (.getfield 109, 3) := by decide +kernel
theorem dX8_addRecording_152 : decode cX8_addRecording 152 = .ok (.iload 6, 2) := by decide +kernel
theorem dX8_addRecording_154 : decode cX8_addRecording 154 = .ok (.iconst 2, 1) := by decide +kernel
theorem dX8_addRecording_155 : decode cX8_addRecording 155 = .ok (.iload_n 3, 1) := by decide +kernel
theorem dX8_addRecording_156 : decode cX8_addRecording 156 = .ok (.invokevirtual 83, 3) := by decide +kernel
theorem dX8_addRecording_159 : decode cX8_addRecording 159 = .ok (.aload_n 0, 1) := by decide +kernel
theorem dX8_addRecording_160 : decode cX8_addRecording 160 = .ok (.getfield 10, 3) := by decide +kernel
theorem dX8_addRecording_163 : decode cX8_addRecording 163 = .ok (.getfield 109, 3) := by decide +kernel
theorem dX8_addRecording_166 : decode cX8_addRecording 166 = .ok (.iload 6, 2) := by decide +kernel
theorem dX8_addRecording_168 : decode cX8_addRecording 168 = .ok (.iconst 3, 1) := by decide +kernel
theorem dX8_addRecording_169 : decode cX8_addRecording 169 = .ok (.iload 4, 2) := by decide +kernel
theorem dX8_addRecording_171 : decode cX8_addRecording 171 = .ok (.invokevirtual 83, 3) := by decide +kernel
theorem dX8_addRecording_174 : decode cX8_addRecording 174 = .ok (.aload_n 0, 1) := by decide +kernel
theorem dX8_addRecording_175 : decode cX8_addRecording 175 = .ok (.getfield 10, 3) := by decide +kernel
theorem dX8_addRecording_178 : decode cX8_addRecording 178 = .ok (.getfield 109, 3) := by decide +kernel
theorem dX8_addRecording_181 : decode cX8_addRecording 181 = .ok (.iload 6, 2) := by decide +kernel
theorem dX8_addRecording_183 : decode cX8_addRecording 183 = .ok (.iconst 4, 1) := by decide +kernel
theorem dX8_addRecording_184 : decode cX8_addRecording 184 = .ok (.iload 5, 2) := by decide +kernel
theorem dX8_addRecording_186 : decode cX8_addRecording 186 = .ok (.invokevirtual 83, 3) := by decide +kernel
theorem dX8_addRecording_189 : decode cX8_addRecording 189 = .ok (.aload_n 0, 1) := by decide +kernel
theorem dX8_addRecording_190 : decode cX8_addRecording 190 = .ok (.getfield 10, 3) := by decide +kernel
theorem dX8_addRecording_193 : decode cX8_addRecording 193 = .ok (.getfield 65, 3) := by decide +kernel
theorem dX8_addRecording_196 : decode cX8_addRecording 196 = .ok (.iload_n 1, 1) := by decide +kernel
theorem dX8_addRecording_197 : decode cX8_addRecording 197 = .ok (.bipush 6, 2) := by decide +kernel
theorem dX8_addRecording_199 : decode cX8_addRecording 199 = .ok (.iconst 1, 1) := by decide +kernel
theorem dX8_addRecording_200 : decode cX8_addRecording 200 = .ok (.invokevirtual 116, 3) := by decide +kernel
theorem dX8_addRecording_203 : decode cX8_addRecording 203 = .ok (.iload 6, 2) := by decide +kernel
theorem dX8_addRecording_205 : decode cX8_addRecording 205 = .ok (.ireturn, 1) := by decide +kernel
theorem dX8_addPart_0 : decode cX8_addPart 0 = .ok (.aload_n 0, 1) := by decide +kernel
theorem dX8_addPart_1 : decode cX8_addPart 1 = .ok (.getfield 10, 3) := by decide +kernel
theorem dX8_addPart_4 : decode cX8_addPart 4 = .ok (.getfield 109, 3) := by decide +kernel
theorem dX8_addPart_7 : decode cX8_addPart 7 = .ok (.iload_n 1, 1) := by decide +kernel
theorem dX8_addPart_8 : decode cX8_addPart 8 = .ok (.invokevirtual 94, 3) := by decide +kernel
theorem dX8_addPart_11 : decode cX8_addPart 11 = .ok (.ifCond .ne 5, 3) := by decide +kernel
theorem dX8_addPart_14 : decode cX8_addPart 14 = .ok (.iconst (-1), 1) := by decide +kernel
theorem dX8_addPart_15 : decode cX8_addPart 15 = .ok (.ireturn, 1) := by decide +kernel
theorem dX8_addPart_16 : decode cX8_addPart 16 = .ok (.iload_n 2, 1) := by decide +kernel
theorem dX8_addPart_17 : decode cX8_addPart 17 = .ok (.iload_n 3, 1) := by decide +kernel
theorem dX8_addPart_18 : decode cX8_addPart 18 = .ok (.aload_n 0, 1) := by decide +kernel
theorem dX8_addPart_19 : decode cX8_addPart 19 = .ok (.iload_n 1, 1) := by decide +kernel
theorem dX8_addPart_20 : decode cX8_addPart 20 = .ok (.invokevirtual 119, 3) := by decide +kernel
theorem dX8_addPart_23 : decode cX8_addPart 23 = .ok (.invokestatic 106, 3) := by decide +kernel
theorem dX8_addPart_26 : decode cX8_addPart 26 = .ok (.ifCond .eq 23, 3) := by decide +kernel
theorem dX8_addPart_29 : decode cX8_addPart 29 = .ok (.iload 4, 2) := by decide +kernel
theorem dX8_addPart_31 : decode cX8_addPart 31 = .ok (.invokestatic 122, 3) := by decide +kernel
theorem dX8_addPart_34 : decode cX8_addPart 34 = .ok (.ifCond .eq 15, 3) := by decide +kernel
theorem dX8_addPart_37 : decode cX8_addPart 37 = .ok (.iload 5, 2) := by decide +kernel
theorem dX8_addPart_39 : decode cX8_addPart 39 = .ok (.iconst 0, 1) := by decide +kernel
theorem dX8_addPart_40 : decode cX8_addPart 40 = .ok (.sipush 9999, 3) := by decide +kernel
theorem dX8_addPart_43 : decode cX8_addPart 43 = .ok (.invokestatic 61, 3) := by decide +kernel
theorem dX8_addPart_46 : decode cX8_addPart 46 = .ok (.ifCond .ne 6, 3) := by decide +kernel
theorem dX8_addPart_49 : decode cX8_addPart 49 = .ok (.bipush (-2), 2) := by decide +kernel
theorem dX8_addPart_51 : decode cX8_addPart 51 = .ok (.ireturn, 1) := by decide +kernel
theorem dX8_addPart_52 : decode cX8_addPart 52 = .ok (.aload_n 0, 1) := by decide +kernel
theorem dX8_addPart_53 : decode cX8_addPart 53 = .ok (.getfield 10, 3) := by decide +kernel
theorem dX8_addPart_56 : decode cX8_addPart 56 = .ok (.getfield 109, 3) := by decide +kernel
theorem dX8_addPart_59 : decode cX8_addPart 59 = .ok (.iload_n 1, 1) := by decide +kernel
theorem dX8_addPart_60 : decode cX8_addPart 60 = .ok (.iconst 5, 1) := by decide +kernel
theorem dX8_addPart_61 : decode cX8_addPart 61 = .ok (.invokevirtual 98, 3) := by decide +kernel
theorem dX8_addPart_64 : decode cX8_addPart 64 = .ok (.istore 6, 2) := by decide +kernel
theorem dX8_addPart_66 : decode cX8_addPart 66 = .ok (.iload 6, 2) := by decide +kernel
theorem dX8_addPart_68 : decode cX8_addPart 68 = .ok (.iconst 4, 1) := by decide +kernel
theorem dX8_addPart_69 : decode cX8_addPart 69 = .ok (.if_icmp .lt 6, 3) := by decide +kernel
theorem dX8_addPart_72 : decode cX8_addPart 72 = .ok (.bipush (-4), 2) := by decide +kernel
theorem dX8_addPart_74 : decode cX8_addPart 74 = .ok (.ireturn, 1) := by decide +kernel
theorem dX8_addPart_75 : decode cX8_addPart 75 = .ok (.aload_n 0, 1) := by decide +kernel
theorem dX8_addPart_76 : decode cX8_addPart 76 = .ok (.getfield 19, 3) := by decide +kernel
theorem dX8_addPart_79 : decode cX8_addPart 79 = .ok (.aload_n 0, 1) := by decide +kernel
theorem dX8_addPart_80 : decode cX8_addPart 80 = .ok (.getfield 10, 3) := by decide +kernel
theorem dX8_addPart_83 : decode cX8_addPart 83 = .ok (.invokevirtual 75, 3) := by decide +kernel
theorem dX8_addPart_86 : decode cX8_addPart 86 = .ok (.iload_n 1, 1) := by decide +kernel
theorem dX8_addPart_87 : decode cX8_addPart 87 = .ok (.iload 6, 2) := by decide +kernel
theorem dX8_addPart_89 : decode cX8_addPart 89 = .ok (.invokestatic 125, 3) := by decide +kernel
theorem dX8_addPart_92 : decode cX8_addPart 92 = .ok (.istore 7, 2) := by decide +kernel
theorem dX8_addPart_94 : decode cX8_addPart 94 = .ok (.aload_n 0, 1) := by decide +kernel
theorem dX8_addPart_95 : decode cX8_addPart 95 = .ok (.getfield 10, 3) := by decide +kernel
theorem dX8_addPart_98 : decode cX8_addPart 98 = .ok (.getfield 128, 3) := by decide +kernel
theorem dX8_addPart_101 : decode cX8_addPart 101 = .ok (.iload 7, 2) := by decide +kernel
theorem dX8_addPart_103 : decode cX8_addPart 103 = .ok (.iconst 0, 1) := by decide +kernel
theorem dX8_addPart_104 : decode cX8_addPart 104 = .ok (.iload_n 2, 1) := by decide +kernel
theorem dX8_addPart_105 : decode cX8_addPart 105 = .ok (.invokevirtual 83, 3) := by decide +kernel
theorem dX8_addPart_108 : decode cX8_addPart 108 = .ok (.aload_n 0, 1) := by decide +kernel
theorem dX8_addPart_109 : decode cX8_addPart 109 = .ok (.getfield 10, 3) := by decide +kernel
theorem dX8_addPart_112 : decode cX8_addPart 112 = .ok (.getfield 128, 3) := by decide +kernel
theorem dX8_addPart_115 : decode cX8_addPart 115 = .ok (.iload 7, 2) := by decide +kernel
theorem dX8_addPart_117 : decode cX8_addPart 117 = .ok (.iconst 1, 1) := by decide +kernel
theorem dX8_addPart_118 : decode cX8_addPart 118 = .ok (.iload_n 3, 1) := by decide +kernel
theorem dX8_addPart_119 : decode cX8_addPart 119 = .ok (.invokevirtual 83, 3) := by decide +kernel
theorem dX8_addPart_122 : decode cX8_addPart 122 = .ok (.aload_n 0, 1) := by decide +kernel
theorem dX8_addPart_123 : decode cX8_addPart 123 = .ok (.getfield 10, 3) := by decide +kernel
theorem dX8_addPart_126 : decode cX8_addPart 126 = .ok (.getfield 128, 3) := by decide +kernel
theorem dX8_addPart_129 : decode cX8_addPart 129 = .ok (.iload 7, 2) := by decide +kernel
theorem dX8_addPart_131 : decode cX8_addPart 131 = .ok (.iconst 2, 1) := by decide +kernel
theorem dX8_addPart_132 : decode cX8_addPart 132 = .ok (.iload 4, 2) := by decide +kernel
theorem dX8_addPart_134 : decode cX8_addPart 134 = .ok (.invokevirtual 83, 3) := by decide +kernel
theorem dX8_addPart_137 : decode cX8_addPart 137 = .ok (.aload_n 0, 1) := by decide +kernel
theorem dX8_addPart_138 : decode cX8_addPart 138 = .ok (.getfield 10, 3) := by decide +kernel
theorem dX8_addPart_141 : decode cX8_addPart 141 = .ok (.getfield 128, 3) := by decide +kernel
theorem dX8_addPart_144 : decode cX8_addPart 144 = .ok (.iload 7, 2) := by decide +kernel
theorem dX8_addPart_146 : decode cX8_addPart 146 = .ok (.iconst 3, 1) := by decide +kernel
theorem dX8_addPart_147 : decode cX8_addPart 147 = .ok (.iload 5, 2) := by decide +kernel
theorem dX8_addPart_149 : decode cX8_addPart 149 = .ok (.invokevirtual 83, 3) := by decide +kernel
theorem dX8_addPart_152 : decode cX8_addPart 152 = .ok (.aload_n 0, 1) := by decide +kernel
theorem dX8_addPart_153 : decode cX8_addPart 153 = .ok (.getfield 10, 3) := by decide +kernel
theorem dX8_addPart_156 : decode cX8_addPart 156 = .ok (.getfield 109, 3) := by decide +kernel
theorem dX8_addPart_159 : decode cX8_addPart 159 = .ok (.iload_n 1, 1) := by decide +kernel
theorem dX8_addPart_160 : decode cX8_addPart 160 = .ok (.iconst 5, 1) := by decide +kernel
theorem dX8_addPart_161 : decode cX8_addPart 161 = .ok (.iconst 1, 1) := by decide +kernel
theorem dX8_addPart_162 : decode cX8_addPart 162 = .ok (.invokevirtual 116, 3) := by decide +kernel
theorem dX8_addPart_165 : decode cX8_addPart 165 = .ok (.iload 6, 2) := by decide +kernel
theorem dX8_addPart_167 : decode cX8_addPart 167 = .ok (.ireturn, 1) := by decide +kernel
theorem dX8_transfer_0 : decode cX8_transfer 0 = .ok (.aload_n 0, 1) := by decide +kernel
theorem dX8_transfer_1 : decode cX8_transfer 1 = .ok (.iload_n 1, 1) := by decide +kernel
theorem dX8_transfer_2 : decode cX8_transfer 2 = .ok (.iload_n 2, 1) := by decide +kernel
theorem dX8_transfer_3 : decode cX8_transfer 3 = .ok (.iload_n 3, 1) := by decide +kernel
theorem dX8_transfer_4 : decode cX8_transfer 4 = .ok (.iload 4, 2) := by decide +kernel
theorem dX8_transfer_6 : decode cX8_transfer 6 = .ok (.iconst 1, 1) := by decide +kernel
theorem dX8_transfer_7 : decode cX8_transfer 7 = .ok (.invokevirtual 131, 3) := by decide +kernel
theorem dX8_transfer_10 : decode cX8_transfer 10 = .ok (.ireturn, 1) := by decide +kernel
theorem dX8_permit_0 : decode cX8_permit 0 = .ok (.iload_n 1, 1) := by decide +kernel
theorem dX8_permit_1 : decode cX8_permit 1 = .ok (.invokestatic 122, 3) := by decide +kernel
theorem dX8_permit_4 : decode cX8_permit 4 = .ok (.ifCond .eq 29, 3) := by decide +kernel
theorem dX8_permit_7 : decode cX8_permit 7 = .ok (.iload_n 2, 1) := by decide +kernel
theorem dX8_permit_8 : decode cX8_permit 8 = .ok (.invokestatic 122, 3) := by decide +kernel
theorem dX8_permit_11 : decode cX8_permit 11 = .ok (.ifCond .eq 22, 3) := by decide +kernel
theorem dX8_permit_14 : decode cX8_permit 14 = .ok (.iload_n 3, 1) := by decide +kernel
theorem dX8_permit_15 : decode cX8_permit 15 = .ok (.invokestatic 135, 3) := by decide +kernel
theorem dX8_permit_18 : decode cX8_permit 18 = .ok (.ifCond .eq 15, 3) := by decide +kernel
theorem dX8_permit_21 : decode cX8_permit 21 = .ok (.iload 4, 2) := by decide +kernel
theorem dX8_permit_23 : decode cX8_permit 23 = .ok (.iconst 0, 1) := by decide +kernel
theorem dX8_permit_24 : decode cX8_permit 24 = .ok (.sipush 9999, 3) := by decide +kernel
theorem dX8_permit_27 : decode cX8_permit 27 = .ok (.invokestatic 61, 3) := by decide +kernel
theorem dX8_permit_30 : decode cX8_permit 30 = .ok (.ifCond .ne 6, 3) := by decide +kernel
theorem dX8_permit_33 : decode cX8_permit 33 = .ok (.bipush (-2), 2) := by decide +kernel
theorem dX8_permit_35 : decode cX8_permit 35 = .ok (.ireturn, 1) := by decide +kernel
theorem dX8_permit_36 : decode cX8_permit 36 = .ok (.aload_n 0, 1) := by decide +kernel
theorem dX8_permit_37 : decode cX8_permit 37 = .ok (.getfield 10, 3) := by decide +kernel
theorem dX8_permit_40 : decode cX8_permit 40 = .ok (.getfield 138, 3) := by decide +kernel
theorem dX8_permit_43 : decode cX8_permit 43 = .ok (.invokevirtual 69, 3) := by decide +kernel
theorem dX8_permit_46 : decode cX8_permit 46 = .ok (.ifCond .eq 6, 3) := by decide +kernel
theorem dX8_permit_49 : decode cX8_permit 49 = .ok (.bipush (-4), 2) := by decide +kernel
theorem dX8_permit_51 : decode cX8_permit 51 = .ok (.ireturn, 1) := by decide +kernel
theorem dX8_permit_52 : decode cX8_permit 52 = .ok (.aload_n 0, 1) := by decide +kernel
theorem dX8_permit_53 : decode cX8_permit 53 = .ok (.getfield 19, 3) := by decide +kernel
theorem dX8_permit_56 : decode cX8_permit 56 = .ok (.aload_n 0, 1) := by decide +kernel
theorem dX8_permit_57 : decode cX8_permit 57 = .ok (.getfield 10, 3) := by decide +kernel
theorem dX8_permit_60 : decode cX8_permit 60 = .ok (.invokevirtual 75, 3) := by decide +kernel
theorem dX8_permit_63 : decode cX8_permit 63 = .ok (.aload_n 0, 1) := by decide +kernel
theorem dX8_permit_64 : decode cX8_permit 64 = .ok (.getfield 10, 3) := by decide +kernel
theorem dX8_permit_67 : decode cX8_permit 67 = .ok (.getfield 138, 3) := by decide +kernel
theorem dX8_permit_70 : decode cX8_permit 70 = .ok (.invokevirtual 79, 3) := by decide +kernel
theorem dX8_permit_73 : decode cX8_permit 73 = .ok (.istore 5, 2) := by decide +kernel
theorem dX8_permit_75 : decode cX8_permit 75 = .ok (.aload_n 0, 1) := by decide +kernel
theorem dX8_permit_76 : decode cX8_permit 76 = .ok (.getfield 10, 3) := by decide +kernel
theorem dX8_permit_79 : decode cX8_permit 79 = .ok (.getfield 138, 3) := by decide +kernel
theorem dX8_permit_82 : decode cX8_permit 82 = .ok (.iload 5, 2) := by decide +kernel
theorem dX8_permit_84 : decode cX8_permit 84 = .ok (.iconst 0, 1) := by decide +kernel
theorem dX8_permit_85 : decode cX8_permit 85 = .ok (.iload_n 1, 1) := by decide +kernel
theorem dX8_permit_86 : decode cX8_permit 86 = .ok (.invokevirtual 83, 3) := by decide +kernel
theorem dX8_permit_89 : decode cX8_permit 89 = .ok (.aload_n 0, 1) := by decide +kernel
theorem dX8_permit_90 : decode cX8_permit 90 = .ok (.getfield 10, 3) := by decide +kernel
theorem dX8_permit_93 : decode cX8_permit 93 = .ok (.getfield 138, 3) := by decide +kernel
theorem dX8_permit_96 : decode cX8_permit 96 = .ok (.iload 5, 2) := by decide +kernel
theorem dX8_permit_98 : decode cX8_permit 98 = .ok (.iconst 1, 1) := by decide +kernel
theorem dX8_permit_99 : decode cX8_permit 99 = .ok (.iload_n 2, 1) := by decide +kernel
theorem dX8_permit_100 : decode cX8_permit 100 = .ok (.invokevirtual 83, 3) := by decide +kernel
theorem dX8_permit_103 : decode cX8_permit 103 = .ok (.aload_n 0, 1) := by decide +kernel
theorem dX8_permit_104 : decode cX8_permit 104 = .ok (.getfield 10, 3) := by decide +kernel
theorem dX8_permit_107 : decode cX8_permit 107 = .ok (.getfield 138, 3) := by decide +kernel
theorem dX8_permit_110 : decode cX8_permit 110 = .ok (.iload 5, 2) := by decide +kernel
theorem dX8_permit_112 : decode cX8_permit 112 = .ok (.iconst 2, 1) := by decide +kernel
theorem dX8_permit_113 : decode cX8_permit 113 = .ok (.iload_n 3, 1) := by decide +kernel
theorem dX8_permit_114 : decode cX8_permit 114 = .ok (.invokevirtual 83, 3) := by decide +kernel
theorem dX8_permit_117 : decode cX8_permit 117 = .ok (.aload_n 0, 1) := by decide +kernel
theorem dX8_permit_118 : decode cX8_permit 118 = .ok (.getfield 10, 3) := by decide +kernel
theorem dX8_permit_121 : decode cX8_permit 121 = .ok (.getfield 138, 3) := by decide +kernel
theorem dX8_permit_124 : decode cX8_permit 124 = .ok (.iload 5, 2) := by decide +kernel
theorem dX8_permit_126 : decode cX8_permit 126 = .ok (.iconst 3, 1) := by decide +kernel
theorem dX8_permit_127 : decode cX8_permit 127 = .ok (.iload 4, 2) := by decide +kernel
theorem dX8_permit_129 : decode cX8_permit 129 = .ok (.invokevirtual 83, 3) := by decide +kernel
theorem dX8_permit_132 : decode cX8_permit 132 = .ok (.iload 5, 2) := by decide +kernel
theorem dX8_permit_134 : decode cX8_permit 134 = .ok (.ireturn, 1) := by decide +kernel
theorem dX8_request_0 : decode cX8_request 0 = .ok (.aload_n 0, 1) := by decide +kernel
theorem dX8_request_1 : decode cX8_request 1 = .ok (.iload_n 1, 1) := by decide +kernel
theorem dX8_request_2 : decode cX8_request 2 = .ok (.iload_n 2, 1) := by decide +kernel
theorem dX8_request_3 : decode cX8_request 3 = .ok (.iload_n 3, 1) := by decide +kernel
theorem dX8_request_4 : decode cX8_request 4 = .ok (.iload 4, 2) := by decide +kernel
theorem dX8_request_6 : decode cX8_request 6 = .ok (.iload 5, 2) := by decide +kernel
theorem dX8_request_8 : decode cX8_request 8 = .ok (.invokevirtual 144, 3) := by decide +kernel
theorem dX8_request_11 : decode cX8_request 11 = .ok (.istore 7, 2) := by decide +kernel
theorem dX8_request_13 : decode cX8_request 13 = .ok (.iload 7, 2) := by decide +kernel
theorem dX8_request_15 : decode cX8_request 15 = .ok (.ifCond .eq 6, 3) := by decide +kernel
theorem dX8_request_18 : decode cX8_request 18 = .ok (.iload 7, 2) := by decide +kernel
theorem dX8_request_20 : decode cX8_request 20 = .ok (.ireturn, 1) := by decide +kernel
theorem dX8_request_21 : decode cX8_request 21 = .ok (.iload 6, 2) := by decide +kernel
theorem dX8_request_23 : decode cX8_request 23 = .ok (.iconst 1, 1) := by decide +kernel
theorem dX8_request_24 : decode cX8_request 24 = .ok (.bipush 100, 2) := by decide +kernel
theorem dX8_request_26 : decode cX8_request 26 = .ok (.invokestatic 61, 3) := by decide +kernel
theorem dX8_request_29 : decode cX8_request 29 = .ok (.ifCond .ne 6, 3) := by decide +kernel
theorem dX8_request_32 : decode cX8_request 32 = .ok (.bipush (-2), 2) := by decide +kernel
theorem dX8_request_34 : decode cX8_request 34 = .ok (.ireturn, 1) := by decide +kernel
theorem dX8_request_35 : decode cX8_request 35 = .ok (.aload_n 0, 1) := by decide +kernel
theorem dX8_request_36 : decode cX8_request 36 = .ok (.getfield 10, 3) := by decide +kernel
theorem dX8_request_39 : decode cX8_request 39 = .ok (.getfield 148, 3) := by decide +kernel
theorem dX8_request_42 : decode cX8_request 42 = .ok (.invokevirtual 69, 3) := by decide +kernel
theorem dX8_request_45 : decode cX8_request 45 = .ok (.ifCond .eq 6, 3) := by decide +kernel
theorem dX8_request_48 : decode cX8_request 48 = .ok (.bipush (-4), 2) := by decide +kernel
theorem dX8_request_50 : decode cX8_request 50 = .ok (.ireturn, 1) := by decide +kernel
theorem dX8_request_51 : decode cX8_request 51 = .ok (.aload_n 0, 1) := by decide +kernel
theorem dX8_request_52 : decode cX8_request 52 = .ok (.getfield 19, 3) := by decide +kernel
theorem dX8_request_55 : decode cX8_request 55 = .ok (.aload_n 0, 1) := by decide +kernel
theorem dX8_request_56 : decode cX8_request 56 = .ok (.getfield 10, 3) := by decide +kernel
theorem dX8_request_59 : decode cX8_request 59 = .ok (.invokevirtual 75, 3) := by decide +kernel
theorem dX8_request_62 : decode cX8_request 62 = .ok (.aload_n 0, 1) := by decide +kernel
theorem dX8_request_63 : decode cX8_request 63 = .ok (.getfield 10, 3) := by decide +kernel
theorem dX8_request_66 : decode cX8_request 66 = .ok (.getfield 148, 3) := by decide +kernel
theorem dX8_request_69 : decode cX8_request 69 = .ok (.invokevirtual 79, 3) := by decide +kernel
theorem dX8_request_72 : decode cX8_request 72 = .ok (.istore 8, 2) := by decide +kernel
theorem dX8_request_74 : decode cX8_request 74 = .ok (.aload_n 0, 1) := by decide +kernel
theorem dX8_request_75 : decode cX8_request 75 = .ok (.getfield 10, 3) := by decide +kernel
theorem dX8_request_78 : decode cX8_request 78 = .ok (.getfield 148, 3) := by decide +kernel
theorem dX8_request_81 : decode cX8_request 81 = .ok (.iload 8, 2) := by decide +kernel
theorem dX8_request_83 : decode cX8_request 83 = .ok (.iconst 0, 1) := by decide +kernel
theorem dX8_request_84 : decode cX8_request 84 = .ok (.iconst 0, 1) := by decide +kernel
theorem dX8_request_85 : decode cX8_request 85 = .ok (.invokevirtual 83, 3) := by decide +kernel
theorem dX8_request_88 : decode cX8_request 88 = .ok (.aload_n 0, 1) := by decide +kernel
theorem dX8_request_89 : decode cX8_request 89 = .ok (.getfield 10, 3) := by decide +kernel
theorem dX8_request_92 : decode cX8_request 92 = .ok (.getfield 148, 3) := by decide +kernel
theorem dX8_request_95 : decode cX8_request 95 = .ok (.iload 8, 2) := by decide +kernel
theorem dX8_request_97 : decode cX8_request 97 = .ok (.iconst 1, 1) := by decide +kernel
theorem dX8_request_98 : decode cX8_request 98 = .ok (.iload_n 1, 1) := by decide +kernel
theorem dX8_request_99 : decode cX8_request 99 = .ok (.invokevirtual 83, 3) := by decide +kernel
theorem dX8_request_102 : decode cX8_request 102 = .ok (.aload_n 0, 1) := by decide +kernel
theorem dX8_request_103 : decode cX8_request 103 = .ok (.getfield 10, 3) := by decide +kernel
theorem dX8_request_106 : decode cX8_request 106 = .ok (.getfield 148, 3) := by decide +kernel
theorem dX8_request_109 : decode cX8_request 109 = .ok (.iload 8, 2) := by decide +kernel
theorem dX8_request_111 : decode cX8_request 111 = .ok (.iconst 2, 1) := by decide +kernel
theorem dX8_request_112 : decode cX8_request 112 = .ok (.iload_n 2, 1) := by decide +kernel
theorem dX8_request_113 : decode cX8_request 113 = .ok (.invokevirtual 83, 3) := by decide +kernel
theorem dX8_request_116 : decode cX8_request 116 = .ok (.aload_n 0, 1) := by decide +kernel
theorem dX8_request_117 : decode cX8_request 117 = .ok (.getfield 10, 3) := by decide +kernel
theorem dX8_request_120 : decode cX8_request 120 = .ok (.getfield 148, 3) := by decide +kernel
theorem dX8_request_123 : decode cX8_request 123 = .ok (.iload 8, 2) := by decide +kernel
theorem dX8_request_125 : decode cX8_request 125 = .ok (.iconst 3, 1) := by decide +kernel
theorem dX8_request_126 : decode cX8_request 126 = .ok (.iload_n 3, 1) := by decide +kernel
theorem dX8_request_127 : decode cX8_request 127 = .ok (.invokevirtual 83, 3) := by decide +kernel
theorem dX8_request_130 : decode cX8_request 130 = .ok (.aload_n 0, 1) := by decide +kernel
theorem dX8_request_131 : decode cX8_request 131 = .ok (.getfield 10, 3) := by decide +kernel
theorem dX8_request_134 : decode cX8_request 134 = .ok (.getfield 148, 3) := by decide +kernel
theorem dX8_request_137 : decode cX8_request 137 = .ok (.iload 8, 2) := by decide +kernel
theorem dX8_request_139 : decode cX8_request 139 = .ok (.iconst 4, 1) := by decide +kernel
theorem dX8_request_140 : decode cX8_request 140 = .ok (.iload 4, 2) := by decide +kernel
theorem dX8_request_142 : decode cX8_request 142 = .ok (.invokevirtual 83, 3) := by decide +kernel
theorem dX8_request_145 : decode cX8_request 145 = .ok (.aload_n 0, 1) := by decide +kernel
theorem dX8_request_146 : decode cX8_request 146 = .ok (.getfield 10, 3) := by decide +kernel
theorem dX8_request_149 : decode cX8_request 149 = .ok (.getfield 148, 3) := by decide +kernel
theorem dX8_request_152 : decode cX8_request 152 = .ok (.iload 8, 2) := by decide +kernel
theorem dX8_request_154 : decode cX8_request 154 = .ok (.iconst 5, 1) := by decide +kernel
theorem dX8_request_155 : decode cX8_request 155 = .ok (.iload 5, 2) := by decide +kernel
theorem dX8_request_157 : decode cX8_request 157 = .ok (.invokevirtual 83, 3) := by decide +kernel
theorem dX8_request_160 : decode cX8_request 160 = .ok (.aload_n 0, 1) := by decide +kernel
theorem dX8_request_161 : decode cX8_request 161 = .ok (.getfield 10, 3) := by decide +kernel
theorem dX8_request_164 : decode cX8_request 164 = .ok (.getfield 148, 3) := by decide +kernel
theorem dX8_request_167 : decode cX8_request 167 = .ok (.iload 8, 2) := by decide +kernel
theorem dX8_request_169 : decode cX8_request 169 = .ok (.bipush 6, 2) := by decide +kernel
theorem dX8_request_171 : decode cX8_request 171 = .ok (.iload 6, 2) := by decide +kernel
theorem dX8_request_173 : decode cX8_request 173 = .ok (.invokevirtual 83, 3) := by decide +kernel
theorem dX8_request_176 : decode cX8_request 176 = .ok (.aload_n 0, 1) := by decide +kernel
theorem dX8_request_177 : decode cX8_request 177 = .ok (.getfield 10, 3) := by decide +kernel
theorem dX8_request_180 : decode cX8_request 180 = .ok (.getfield 148, 3) := by decide +kernel
theorem dX8_request_183 : decode cX8_request 183 = .ok (.iload 8, 2) := by decide +kernel
theorem dX8_request_185 : decode cX8_request 185 = .ok (.bipush 7, 2) := by decide +kernel
theorem dX8_request_187 : decode cX8_request 187 = .ok (.aload_n 0, 1) := by decide +kernel
theorem dX8_request_188 : decode cX8_request 188 = .ok (.getfield 10, 3) := by decide +kernel
theorem dX8_request_191 : decode cX8_request 191 = .ok (.getfield 151, 3) := by decide +kernel
theorem dX8_request_194 : decode cX8_request 194 = .ok (.bipush 30, 2) := by decide +kernel
theorem dX8_request_196 : decode cX8_request 196 = .ok (.iadd, 1) := by decide +kernel
theorem dX8_request_197 : decode cX8_request 197 = .ok (.sipush 9999, 3) := by decide +kernel
theorem dX8_request_200 : decode cX8_request 200 = .ok (.invokestatic 155, 3) := by decide +kernel
theorem dX8_request_203 : decode cX8_request 203 = .ok (.invokevirtual 83, 3) := by decide +kernel
theorem dX8_request_206 : decode cX8_request 206 = .ok (.aload_n 0, 1) := by decide +kernel
theorem dX8_request_207 : decode cX8_request 207 = .ok (.getfield 10, 3) := by decide +kernel
theorem dX8_request_210 : decode cX8_request 210 = .ok (.getfield 148, 3) := by decide +kernel
theorem dX8_request_213 : decode cX8_request 213 = .ok (.iload 8, 2) := by decide +kernel
theorem dX8_request_215 : decode cX8_request 215 = .ok (.bipush 8, 2) := by decide +kernel
theorem dX8_request_217 : decode cX8_request 217 = .ok (.bipush (-6), 2) := by decide +kernel
theorem dX8_request_219 : decode cX8_request 219 = .ok (.invokevirtual 83, 3) := by decide +kernel
theorem dX8_request_222 : decode cX8_request 222 = .ok (.iload 8, 2) := by decide +kernel
theorem dX8_request_224 : decode cX8_request 224 = .ok (.ireturn, 1) := by decide +kernel
theorem dX8_withdraw_0 : decode cX8_withdraw 0 = .ok (.aload_n 0, 1) := by decide +kernel
theorem dX8_withdraw_1 : decode cX8_withdraw 1 = .ok (.getfield 10, 3) := by decide +kernel
theorem dX8_withdraw_4 : decode cX8_withdraw 4 = .ok (.getfield 148, 3) := by decide +kernel
theorem dX8_withdraw_7 : decode cX8_withdraw 7 = .ok (.iload_n 1, 1) := by decide +kernel
theorem dX8_withdraw_8 : decode cX8_withdraw 8 = .ok (.invokevirtual 94, 3) := by decide +kernel
theorem dX8_withdraw_11 : decode cX8_withdraw 11 = .ok (.ifCond .ne 5, 3) := by decide +kernel
theorem dX8_withdraw_14 : decode cX8_withdraw 14 = .ok (.iconst (-1), 1) := by decide +kernel
theorem dX8_withdraw_15 : decode cX8_withdraw 15 = .ok (.ireturn, 1) := by decide +kernel
theorem dX8_withdraw_16 : decode cX8_withdraw 16 = .ok (.aload_n 0, 1) := by decide +kernel
theorem dX8_withdraw_17 : decode cX8_withdraw 17 = .ok (.iload_n 1, 1) := by decide +kernel
theorem dX8_withdraw_18 : decode cX8_withdraw 18 = .ok (.invokevirtual 160, 3) := by decide +kernel
theorem dX8_withdraw_21 : decode cX8_withdraw 21 = .ok (.ifCond .ne 6, 3) := by decide +kernel
theorem dX8_withdraw_24 : decode cX8_withdraw 24 = .ok (.bipush (-3), 2) := by decide +kernel
theorem dX8_withdraw_26 : decode cX8_withdraw 26 = .ok (.ireturn, 1) := by decide +kernel
theorem dX8_withdraw_27 : decode cX8_withdraw 27 = .ok (.aload_n 0, 1) := by decide +kernel
theorem dX8_withdraw_28 : decode cX8_withdraw 28 = .ok (.getfield 19, 3) := by decide +kernel
theorem dX8_withdraw_31 : decode cX8_withdraw 31 = .ok (.aload_n 0, 1) := by decide +kernel
theorem dX8_withdraw_32 : decode cX8_withdraw 32 = .ok (.getfield 10, 3) := by decide +kernel
theorem dX8_withdraw_35 : decode cX8_withdraw 35 = .ok (.invokevirtual 75, 3) := by decide +kernel
theorem dX8_withdraw_38 : decode cX8_withdraw 38 = .ok (.aload_n 0, 1) := by decide +kernel
theorem dX8_withdraw_39 : decode cX8_withdraw 39 = .ok (.getfield 10, 3) := by decide +kernel
theorem dX8_withdraw_42 : decode cX8_withdraw 42 = .ok (.getfield 148, 3) := by decide +kernel
theorem dX8_withdraw_45 : decode cX8_withdraw 45 = .ok (.iload_n 1, 1) := by decide +kernel
theorem dX8_withdraw_46 : decode cX8_withdraw 46 = .ok (.iconst 0, 1) := by decide +kernel
theorem dX8_withdraw_47 : decode cX8_withdraw 47 = .ok (.iconst 3, 1) := by decide +kernel
theorem dX8_withdraw_48 : decode cX8_withdraw 48 = .ok (.invokevirtual 83, 3) := by decide +kernel
theorem dX8_withdraw_51 : decode cX8_withdraw 51 = .ok (.aload_n 0, 1) := by decide +kernel
theorem dX8_withdraw_52 : decode cX8_withdraw 52 = .ok (.getfield 10, 3) := by decide +kernel
theorem dX8_withdraw_55 : decode cX8_withdraw 55 = .ok (.getfield 148, 3) := by decide +kernel
theorem dX8_withdraw_58 : decode cX8_withdraw 58 = .ok (.iconst 0, 1) := by decide +kernel
theorem dX8_withdraw_59 : decode cX8_withdraw 59 = .ok (.iconst 0, 1) := by decide +kernel
theorem dX8_withdraw_60 : decode cX8_withdraw 60 = .ok (.invokevirtual 141, 3) := by decide +kernel
theorem dX8_withdraw_63 : decode cX8_withdraw 63 = .ok (.ireturn, 1) := by decide +kernel
theorem dX8_answer_0 : decode cX8_answer 0 = .ok (.aload_n 0, 1) := by decide +kernel
theorem dX8_answer_1 : decode cX8_answer 1 = .ok (.iload_n 1, 1) := by decide +kernel
theorem dX8_answer_2 : decode cX8_answer 2 = .ok (.iconst 1, 1) := by decide +kernel
theorem dX8_answer_3 : decode cX8_answer 3 = .ok (.invokevirtual 163, 3) := by decide +kernel
theorem dX8_answer_6 : decode cX8_answer 6 = .ok (.ireturn, 1) := by decide +kernel
theorem dX8_passDays_0 : decode cX8_passDays 0 = .ok (.aload_n 0, 1) := by decide +kernel
theorem dX8_passDays_1 : decode cX8_passDays 1 = .ok (.iload_n 1, 1) := by decide +kernel
theorem dX8_passDays_2 : decode cX8_passDays 2 = .ok (.iconst 1, 1) := by decide +kernel
theorem dX8_passDays_3 : decode cX8_passDays 3 = .ok (.invokevirtual 167, 3) := by decide +kernel
theorem dX8_passDays_6 : decode cX8_passDays 6 = .ok (.ireturn, 1) := by decide +kernel
theorem dX8_undo_0 : decode cX8_undo 0 = .ok (.aload_n 0, 1) := by decide +kernel
theorem dX8_undo_1 : decode cX8_undo 1 = .ok (.getfield 19, 3) := by decide +kernel
theorem dX8_undo_4 : decode cX8_undo 4 = .ok (.getfield 188, 3) := by decide +kernel
theorem dX8_undo_7 : decode cX8_undo 7 = .ok (.ifCond .ne 6, 3) := by decide +kernel
theorem dX8_undo_10 : decode cX8_undo 10 = .ok (.bipush (-3), 2) := by decide +kernel
theorem dX8_undo_12 : decode cX8_undo 12 = .ok (.ireturn, 1) := by decide +kernel
theorem dX8_undo_13 : decode cX8_undo 13 = .ok (.aload_n 0, 1) := by decide +kernel
theorem dX8_undo_14 : decode cX8_undo 14 = .ok (.getfield 19, 3) := by decide +kernel
theorem dX8_undo_17 : decode cX8_undo 17 = .ok (.aload_n 0, 1) := by decide +kernel
theorem dX8_undo_18 : decode cX8_undo 18 = .ok (.getfield 10, 3) := by decide +kernel
theorem dX8_undo_21 : decode cX8_undo 21 = .ok (.invokevirtual 191, 3) := by decide +kernel
theorem dX8_undo_24 : decode cX8_undo 24 = .ok (.aload_n 0, 1) := by decide +kernel
theorem dX8_undo_25 : decode cX8_undo 25 = .ok (.getfield 19, 3) := by decide +kernel
theorem dX8_undo_28 : decode cX8_undo 28 = .ok (.getfield 188, 3) := by decide +kernel
theorem dX8_undo_31 : decode cX8_undo 31 = .ok (.ireturn, 1) := by decide +kernel
theorem dX8_save_0 : decode cX8_save 0 = .ok (.aload_n 0, 1) := by decide +kernel
theorem dX8_save_1 : decode cX8_save 1 = .ok (.iload_n 1, 1) := by decide +kernel
theorem dX8_save_2 : decode cX8_save 2 = .ok (.invokevirtual 194, 3) := by decide +kernel
theorem dX8_save_5 : decode cX8_save 5 = .ok (.astore_n 2, 1) := by decide +kernel
theorem dX8_save_6 : decode cX8_save 6 = .ok (.aload_n 2, 1) := by decide +kernel
theorem dX8_save_7 : decode cX8_save 7 = .ok (.ifnonnull 5, 3) := by decide +kernel
theorem dX8_save_10 : decode cX8_save 10 = .ok (.iconst (-1), 1) := by decide +kernel
theorem dX8_save_11 : decode cX8_save 11 = .ok (.ireturn, 1) := by decide +kernel
theorem dX8_save_12 : decode cX8_save 12 = .ok (.aload_n 2, 1) := by decide +kernel
theorem dX8_save_13 : decode cX8_save 13 = .ok (.getfield 198, 3) := by decide +kernel
theorem dX8_save_16 : decode cX8_save 16 = .ok (.aload_n 0, 1) := by decide +kernel
theorem dX8_save_17 : decode cX8_save 17 = .ok (.getfield 10, 3) := by decide +kernel
theorem dX8_save_20 : decode cX8_save 20 = .ok (.invokevirtual 201, 3) := by decide +kernel
theorem dX8_save_23 : decode cX8_save 23 = .ok (.aload_n 2, 1) := by decide +kernel
theorem dX8_save_24 : decode cX8_save 24 = .ok (.iconst 1, 1) := by decide +kernel
theorem dX8_save_25 : decode cX8_save 25 = .ok (.putfield 204, 3) := by decide +kernel
theorem dX8_save_28 : decode cX8_save 28 = .ok (.aload_n 0, 1) := by decide +kernel
theorem dX8_save_29 : decode cX8_save 29 = .ok (.getfield 10, 3) := by decide +kernel
theorem dX8_save_32 : decode cX8_save 32 = .ok (.getfield 151, 3) := by decide +kernel
theorem dX8_save_35 : decode cX8_save 35 = .ok (.ireturn, 1) := by decide +kernel
theorem dX8_restore_0 : decode cX8_restore 0 = .ok (.aload_n 0, 1) := by decide +kernel
theorem dX8_restore_1 : decode cX8_restore 1 = .ok (.iload_n 1, 1) := by decide +kernel
theorem dX8_restore_2 : decode cX8_restore 2 = .ok (.invokevirtual 194, 3) := by decide +kernel
theorem dX8_restore_5 : decode cX8_restore 5 = .ok (.astore_n 2, 1) := by decide +kernel
theorem dX8_restore_6 : decode cX8_restore 6 = .ok (.aload_n 2, 1) := by decide +kernel
theorem dX8_restore_7 : decode cX8_restore 7 = .ok (.ifnonnull 5, 3) := by decide +kernel
theorem dX8_restore_10 : decode cX8_restore 10 = .ok (.iconst (-1), 1) := by decide +kernel
theorem dX8_restore_11 : decode cX8_restore 11 = .ok (.ireturn, 1) := by decide +kernel
theorem dX8_restore_12 : decode cX8_restore 12 = .ok (.aload_n 2, 1) := by decide +kernel
theorem dX8_restore_13 : decode cX8_restore 13 = .ok (.getfield 204, 3) := by decide +kernel
theorem dX8_restore_16 : decode cX8_restore 16 = .ok (.ifCond .ne 6, 3) := by decide +kernel
theorem dX8_restore_19 : decode cX8_restore 19 = .ok (.bipush (-3), 2) := by decide +kernel
theorem dX8_restore_21 : decode cX8_restore 21 = .ok (.ireturn, 1) := by decide +kernel
theorem dX8_restore_22 : decode cX8_restore 22 = .ok (.aload_n 0, 1) := by decide +kernel
theorem dX8_restore_23 : decode cX8_restore 23 = .ok (.getfield 19, 3) := by decide +kernel
theorem dX8_restore_26 : decode cX8_restore 26 = .ok (.aload_n 0, 1) := by decide +kernel
theorem dX8_restore_27 : decode cX8_restore 27 = .ok (.getfield 10, 3) := by decide +kernel
theorem dX8_restore_30 : decode cX8_restore 30 = .ok (.invokevirtual 75, 3) := by decide +kernel
theorem dX8_restore_33 : decode cX8_restore 33 = .ok (.aload_n 0, 1) := by decide +kernel
theorem dX8_restore_34 : decode cX8_restore 34 = .ok (.getfield 10, 3) := by decide +kernel
theorem dX8_restore_37 : decode cX8_restore 37 = .ok (.aload_n 2, 1) := by decide +kernel
theorem dX8_restore_38 : decode cX8_restore 38 = .ok (.getfield 198, 3) := by decide +kernel
theorem dX8_restore_41 : decode cX8_restore 41 = .ok (.invokevirtual 201, 3) := by decide +kernel
theorem dX8_restore_44 : decode cX8_restore 44 = .ok (.aload_n 0, 1) := by decide +kernel
theorem dX8_restore_45 : decode cX8_restore 45 = .ok (.getfield 10, 3) := by decide +kernel
theorem dX8_restore_48 : decode cX8_restore 48 = .ok (.getfield 151, 3) := by decide +kernel
theorem dX8_restore_51 : decode cX8_restore 51 = .ok (.ireturn, 1) := by decide +kernel
theorem dX8_carrier_0 : decode cX8_carrier 0 = .ok (.aload_n 0, 1) := by decide +kernel
theorem dX8_carrier_1 : decode cX8_carrier 1 = .ok (.getfield 10, 3) := by decide +kernel
theorem dX8_carrier_4 : decode cX8_carrier 4 = .ok (.getfield 65, 3) := by decide +kernel
theorem dX8_carrier_7 : decode cX8_carrier 7 = .ok (.iload_n 1, 1) := by decide +kernel
theorem dX8_carrier_8 : decode cX8_carrier 8 = .ok (.iload_n 2, 1) := by decide +kernel
theorem dX8_carrier_9 : decode cX8_carrier 9 = .ok (.bipush 7, 2) := by decide +kernel
theorem dX8_carrier_11 : decode cX8_carrier 11 = .ok (.invokestatic 208, 3) := by decide +kernel
theorem dX8_carrier_14 : decode cX8_carrier 14 = .ok (.ireturn, 1) := by decide +kernel
theorem dX8_machine_0 : decode cX8_machine 0 = .ok (.aload_n 0, 1) := by decide +kernel
theorem dX8_machine_1 : decode cX8_machine 1 = .ok (.getfield 10, 3) := by decide +kernel
theorem dX8_machine_4 : decode cX8_machine 4 = .ok (.getfield 91, 3) := by decide +kernel
theorem dX8_machine_7 : decode cX8_machine 7 = .ok (.iload_n 1, 1) := by decide +kernel
theorem dX8_machine_8 : decode cX8_machine 8 = .ok (.iload_n 2, 1) := by decide +kernel
theorem dX8_machine_9 : decode cX8_machine 9 = .ok (.bipush 6, 2) := by decide +kernel
theorem dX8_machine_11 : decode cX8_machine 11 = .ok (.invokestatic 208, 3) := by decide +kernel
theorem dX8_machine_14 : decode cX8_machine 14 = .ok (.ireturn, 1) := by decide +kernel
theorem dX8_recording_0 : decode cX8_recording 0 = .ok (.aload_n 0, 1) := by decide +kernel
theorem dX8_recording_1 : decode cX8_recording 1 = .ok (.getfield 10, 3) := by decide +kernel
theorem dX8_recording_4 : decode cX8_recording 4 = .ok (.getfield 109, 3) := by decide +kernel
theorem dX8_recording_7 : decode cX8_recording 7 = .ok (.iload_n 1, 1) := by decide +kernel
theorem dX8_recording_8 : decode cX8_recording 8 = .ok (.iload_n 2, 1) := by decide +kernel
theorem dX8_recording_9 : decode cX8_recording 9 = .ok (.bipush 6, 2) := by decide +kernel
theorem dX8_recording_11 : decode cX8_recording 11 = .ok (.invokestatic 208, 3) := by decide +kernel
theorem dX8_recording_14 : decode cX8_recording 14 = .ok (.ireturn, 1) := by decide +kernel
theorem dX8_pass_0 : decode cX8_pass 0 = .ok (.aload_n 0, 1) := by decide +kernel
theorem dX8_pass_1 : decode cX8_pass 1 = .ok (.getfield 10, 3) := by decide +kernel
theorem dX8_pass_4 : decode cX8_pass 4 = .ok (.getfield 215, 3) := by decide +kernel
theorem dX8_pass_7 : decode cX8_pass 7 = .ok (.iload_n 1, 1) := by decide +kernel
theorem dX8_pass_8 : decode cX8_pass 8 = .ok (.iload_n 2, 1) := by decide +kernel
theorem dX8_pass_9 : decode cX8_pass 9 = .ok (.bipush 7, 2) := by decide +kernel
theorem dX8_pass_11 : decode cX8_pass 11 = .ok (.invokestatic 208, 3) := by decide +kernel
theorem dX8_pass_14 : decode cX8_pass 14 = .ok (.ireturn, 1) := by decide +kernel
theorem dX8_captured_0 : decode cX8_captured 0 = .ok (.aload_n 0, 1) := by decide +kernel
theorem dX8_captured_1 : decode cX8_captured 1 = .ok (.getfield 10, 3) := by decide +kernel
theorem dX8_captured_4 : decode cX8_captured 4 = .ok (.getfield 215, 3) := by decide +kernel
theorem dX8_captured_7 : decode cX8_captured 7 = .ok (.iload_n 1, 1) := by decide +kernel
theorem dX8_captured_8 : decode cX8_captured 8 = .ok (.invokevirtual 94, 3) := by decide +kernel
theorem dX8_captured_11 : decode cX8_captured 11 = .ok (.ifCond .eq 23, 3) := by decide +kernel
theorem dX8_captured_14 : decode cX8_captured 14 = .ok (.aload_n 0, 1) := by decide +kernel
theorem dX8_captured_15 : decode cX8_captured 15 = .ok (.aload_n 0, 1) := by decide +kernel
theorem dX8_captured_16 : decode cX8_captured 16 = .ok (.getfield 10, 3) := by decide +kernel
theorem dX8_captured_19 : decode cX8_captured 19 = .ok (.getfield 215, 3) := by decide +kernel
theorem dX8_captured_22 : decode cX8_captured 22 = .ok (.iload_n 1, 1) := by decide +kernel
theorem dX8_captured_23 : decode cX8_captured 23 = .ok (.iconst 0, 1) := by decide +kernel
theorem dX8_captured_24 : decode cX8_captured 24 = .ok (.invokevirtual 98, 3) := by decide +kernel
theorem dX8_captured_27 : decode cX8_captured 27 = .ok (.iload_n 2, 1) := by decide +kernel
theorem dX8_captured_28 : decode cX8_captured 28 = .ok (.invokevirtual 218, 3) := by decide +kernel
theorem dX8_captured_31 : decode cX8_captured 31 = .ok (.ifCond .ne 5, 3) := by decide +kernel
theorem dX8_captured_34 : decode cX8_captured 34 = .ok (.iconst (-1), 1) := by decide +kernel
theorem dX8_captured_35 : decode cX8_captured 35 = .ok (.ireturn, 1) := by decide +kernel
theorem dX8_captured_36 : decode cX8_captured 36 = .ok (.aload_n 0, 1) := by decide +kernel
theorem dX8_captured_37 : decode cX8_captured 37 = .ok (.getfield 10, 3) := by decide +kernel
theorem dX8_captured_40 : decode cX8_captured 40 = .ok (.getfield 215, 3) := by decide +kernel
theorem dX8_captured_43 : decode cX8_captured 43 = .ok (.iload_n 1, 1) := by decide +kernel
theorem dX8_captured_44 : decode cX8_captured 44 = .ok (.bipush 7, 2) := by decide +kernel
theorem dX8_captured_46 : decode cX8_captured 46 = .ok (.iload_n 2, 1) := by decide +kernel
theorem dX8_captured_47 : decode cX8_captured 47 = .ok (.iadd, 1) := by decide +kernel
theorem dX8_captured_48 : decode cX8_captured 48 = .ok (.invokevirtual 98, 3) := by decide +kernel
theorem dX8_captured_51 : decode cX8_captured 51 = .ok (.ireturn, 1) := by decide +kernel
theorem dX8_quality_0 : decode cX8_quality 0 = .ok (.aload_n 0, 1) := by decide +kernel
theorem dX8_quality_1 : decode cX8_quality 1 = .ok (.getfield 10, 3) := by decide +kernel
theorem dX8_quality_4 : decode cX8_quality 4 = .ok (.getfield 215, 3) := by decide +kernel
theorem dX8_quality_7 : decode cX8_quality 7 = .ok (.iload_n 1, 1) := by decide +kernel
theorem dX8_quality_8 : decode cX8_quality 8 = .ok (.invokevirtual 94, 3) := by decide +kernel
theorem dX8_quality_11 : decode cX8_quality 11 = .ok (.ifCond .eq 17, 3) := by decide +kernel
theorem dX8_quality_14 : decode cX8_quality 14 = .ok (.aload_n 0, 1) := by decide +kernel
theorem dX8_quality_15 : decode cX8_quality 15 = .ok (.getfield 10, 3) := by decide +kernel
theorem dX8_quality_18 : decode cX8_quality 18 = .ok (.getfield 109, 3) := by decide +kernel
theorem dX8_quality_21 : decode cX8_quality 21 = .ok (.iload_n 2, 1) := by decide +kernel
theorem dX8_quality_22 : decode cX8_quality 22 = .ok (.invokevirtual 94, 3) := by decide +kernel
theorem dX8_quality_25 : decode cX8_quality 25 = .ok (.ifCond .ne 5, 3) := by decide +kernel
theorem dX8_quality_28 : decode cX8_quality 28 = .ok (.iconst (-1), 1) := by decide +kernel
theorem dX8_quality_29 : decode cX8_quality 29 = .ok (.ireturn, 1) := by decide +kernel
theorem dX8_quality_30 : decode cX8_quality 30 = .ok (.aload_n 0, 1) := by decide +kernel
theorem dX8_quality_31 : decode cX8_quality 31 = .ok (.iload_n 1, 1) := by decide +kernel
theorem dX8_quality_32 : decode cX8_quality 32 = .ok (.iload_n 2, 1) := by decide +kernel
theorem dX8_quality_33 : decode cX8_quality 33 = .ok (.invokevirtual 221, 3) := by decide +kernel
theorem dX8_quality_36 : decode cX8_quality 36 = .ok (.ireturn, 1) := by decide +kernel
theorem dX8_bestPass_0 : decode cX8_bestPass 0 = .ok (.aload_n 0, 1) := by decide +kernel
theorem dX8_bestPass_1 : decode cX8_bestPass 1 = .ok (.getfield 10, 3) := by decide +kernel
theorem dX8_bestPass_4 : decode cX8_bestPass 4 = .ok (.getfield 109, 3) := by decide +kernel
theorem dX8_bestPass_7 : decode cX8_bestPass 7 = .ok (.iload_n 1, 1) := by decide +kernel
theorem dX8_bestPass_8 : decode cX8_bestPass 8 = .ok (.invokevirtual 94, 3) := by decide +kernel
theorem dX8_bestPass_11 : decode cX8_bestPass 11 = .ok (.ifCond .eq 11, 3) := by decide +kernel
theorem dX8_bestPass_14 : decode cX8_bestPass 14 = .ok (.aload_n 0, 1) := by decide +kernel
theorem dX8_bestPass_15 : decode cX8_bestPass 15 = .ok (.iload_n 1, 1) := by decide +kernel
theorem dX8_bestPass_16 : decode cX8_bestPass 16 = .ok (.invokevirtual 224, 3) := by decide +kernel
theorem dX8_bestPass_19 : decode cX8_bestPass 19 = .ok (.goto 4, 3) := by decide +kernel
theorem dX8_bestPass_22 : decode cX8_bestPass 22 = .ok (.iconst (-1), 1) := by decide +kernel
theorem dX8_bestPass_23 : decode cX8_bestPass 23 = .ok (.ireturn, 1) := by decide +kernel
theorem dX8_requested_0 : decode cX8_requested 0 = .ok (.aload_n 0, 1) := by decide +kernel
theorem dX8_requested_1 : decode cX8_requested 1 = .ok (.getfield 10, 3) := by decide +kernel
theorem dX8_requested_4 : decode cX8_requested 4 = .ok (.getfield 148, 3) := by decide +kernel
theorem dX8_requested_7 : decode cX8_requested 7 = .ok (.iload_n 1, 1) := by decide +kernel
theorem dX8_requested_8 : decode cX8_requested 8 = .ok (.iload_n 2, 1) := by decide +kernel
theorem dX8_requested_9 : decode cX8_requested 9 = .ok (.bipush 10, 2) := by decide +kernel
theorem dX8_requested_11 : decode cX8_requested 11 = .ok (.invokestatic 208, 3) := by decide +kernel
theorem dX8_requested_14 : decode cX8_requested 14 = .ok (.ireturn, 1) := by decide +kernel
theorem dX8_lacking_0 : decode cX8_lacking 0 = .ok (.aload_n 0, 1) := by decide +kernel
theorem dX8_lacking_1 : decode cX8_lacking 1 = .ok (.iload_n 1, 1) := by decide +kernel
theorem dX8_lacking_2 : decode cX8_lacking 2 = .ok (.iload_n 2, 1) := by decide +kernel
theorem dX8_lacking_3 : decode cX8_lacking 3 = .ok (.iload_n 3, 1) := by decide +kernel
theorem dX8_lacking_4 : decode cX8_lacking 4 = .ok (.iload 4, 2) := by decide +kernel
theorem dX8_lacking_6 : decode cX8_lacking 6 = .ok (.iload 5, 2) := by decide +kernel
theorem dX8_lacking_8 : decode cX8_lacking 8 = .ok (.invokevirtual 144, 3) := by decide +kernel
theorem dX8_lacking_11 : decode cX8_lacking 11 = .ok (.istore 6, 2) := by decide +kernel
theorem dX8_lacking_13 : decode cX8_lacking 13 = .ok (.iload 6, 2) := by decide +kernel
theorem dX8_lacking_15 : decode cX8_lacking 15 = .ok (.ifCond .eq 8, 3) := by decide +kernel
theorem dX8_lacking_18 : decode cX8_lacking 18 = .ok (.iload 6, 2) := by decide +kernel
theorem dX8_lacking_20 : decode cX8_lacking 20 = .ok (.goto 14, 3) := by decide +kernel
theorem dX8_lacking_23 : decode cX8_lacking 23 = .ok (.aload_n 0, 1) := by decide +kernel
theorem dX8_lacking_24 : decode cX8_lacking 24 = .ok (.iload_n 1, 1) := by decide +kernel
theorem dX8_lacking_25 : decode cX8_lacking 25 = .ok (.iload_n 2, 1) := by decide +kernel
theorem dX8_lacking_26 : decode cX8_lacking 26 = .ok (.iload_n 3, 1) := by decide +kernel
theorem dX8_lacking_27 : decode cX8_lacking 27 = .ok (.iload 4, 2) := by decide +kernel
theorem dX8_lacking_29 : decode cX8_lacking 29 = .ok (.iload 5, 2) := by decide +kernel
theorem dX8_lacking_31 : decode cX8_lacking 31 = .ok (.invokevirtual 227, 3) := by decide +kernel
theorem dX8_lacking_34 : decode cX8_lacking 34 = .ok (.ireturn, 1) := by decide +kernel
theorem dX8_fee_0 : decode cX8_fee 0 = .ok (.aload_n 0, 1) := by decide +kernel
theorem dX8_fee_1 : decode cX8_fee 1 = .ok (.iload_n 1, 1) := by decide +kernel
theorem dX8_fee_2 : decode cX8_fee 2 = .ok (.iload_n 2, 1) := by decide +kernel
theorem dX8_fee_3 : decode cX8_fee 3 = .ok (.iload_n 3, 1) := by decide +kernel
theorem dX8_fee_4 : decode cX8_fee 4 = .ok (.iload 4, 2) := by decide +kernel
theorem dX8_fee_6 : decode cX8_fee 6 = .ok (.iload 5, 2) := by decide +kernel
theorem dX8_fee_8 : decode cX8_fee 8 = .ok (.invokevirtual 144, 3) := by decide +kernel
theorem dX8_fee_11 : decode cX8_fee 11 = .ok (.istore 6, 2) := by decide +kernel
theorem dX8_fee_13 : decode cX8_fee 13 = .ok (.iload 6, 2) := by decide +kernel
theorem dX8_fee_15 : decode cX8_fee 15 = .ok (.ifCond .eq 8, 3) := by decide +kernel
theorem dX8_fee_18 : decode cX8_fee 18 = .ok (.iload 6, 2) := by decide +kernel
theorem dX8_fee_20 : decode cX8_fee 20 = .ok (.goto 14, 3) := by decide +kernel
theorem dX8_fee_23 : decode cX8_fee 23 = .ok (.aload_n 0, 1) := by decide +kernel
theorem dX8_fee_24 : decode cX8_fee 24 = .ok (.iload_n 1, 1) := by decide +kernel
theorem dX8_fee_25 : decode cX8_fee 25 = .ok (.iload_n 2, 1) := by decide +kernel
theorem dX8_fee_26 : decode cX8_fee 26 = .ok (.iload_n 3, 1) := by decide +kernel
theorem dX8_fee_27 : decode cX8_fee 27 = .ok (.iload 4, 2) := by decide +kernel
theorem dX8_fee_29 : decode cX8_fee 29 = .ok (.iload 5, 2) := by decide +kernel
theorem dX8_fee_31 : decode cX8_fee 31 = .ok (.invokevirtual 230, 3) := by decide +kernel
theorem dX8_fee_34 : decode cX8_fee 34 = .ok (.ireturn, 1) := by decide +kernel
theorem dX8_income_0 : decode cX8_income 0 = .ok (.iload_n 1, 1) := by decide +kernel
theorem dX8_income_1 : decode cX8_income 1 = .ok (.invokestatic 122, 3) := by decide +kernel
theorem dX8_income_4 : decode cX8_income 4 = .ok (.ifCond .eq 18, 3) := by decide +kernel
theorem dX8_income_7 : decode cX8_income 7 = .ok (.aload_n 0, 1) := by decide +kernel
theorem dX8_income_8 : decode cX8_income 8 = .ok (.getfield 10, 3) := by decide +kernel
theorem dX8_income_11 : decode cX8_income 11 = .ok (.getfield 233, 3) := by decide +kernel
theorem dX8_income_14 : decode cX8_income 14 = .ok (.iload_n 1, 1) := by decide +kernel
theorem dX8_income_15 : decode cX8_income 15 = .ok (.iconst 0, 1) := by decide +kernel
theorem dX8_income_16 : decode cX8_income 16 = .ok (.invokevirtual 98, 3) := by decide +kernel
theorem dX8_income_19 : decode cX8_income 19 = .ok (.goto 5, 3) := by decide +kernel
theorem dX8_income_22 : decode cX8_income 22 = .ok (.bipush (-2), 2) := by decide +kernel
theorem dX8_income_24 : decode cX8_income 24 = .ok (.ireturn, 1) := by decide +kernel
theorem dX8_paid_0 : decode cX8_paid 0 = .ok (.iload_n 1, 1) := by decide +kernel
theorem dX8_paid_1 : decode cX8_paid 1 = .ok (.invokestatic 122, 3) := by decide +kernel
theorem dX8_paid_4 : decode cX8_paid 4 = .ok (.ifCond .eq 18, 3) := by decide +kernel
theorem dX8_paid_7 : decode cX8_paid 7 = .ok (.aload_n 0, 1) := by decide +kernel
theorem dX8_paid_8 : decode cX8_paid 8 = .ok (.getfield 10, 3) := by decide +kernel
theorem dX8_paid_11 : decode cX8_paid 11 = .ok (.getfield 233, 3) := by decide +kernel
theorem dX8_paid_14 : decode cX8_paid 14 = .ok (.iload_n 1, 1) := by decide +kernel
theorem dX8_paid_15 : decode cX8_paid 15 = .ok (.iconst 1, 1) := by decide +kernel
theorem dX8_paid_16 : decode cX8_paid 16 = .ok (.invokevirtual 98, 3) := by decide +kernel
theorem dX8_paid_19 : decode cX8_paid 19 = .ok (.goto 5, 3) := by decide +kernel
theorem dX8_paid_22 : decode cX8_paid 22 = .ok (.bipush (-2), 2) := by decide +kernel
theorem dX8_paid_24 : decode cX8_paid 24 = .ok (.ireturn, 1) := by decide +kernel
theorem dX8_next_0 : decode cX8_next 0 = .ok (.iload_n 1, 1) := by decide +kernel
theorem dX8_next_1 : decode cX8_next 1 = .ok (.ifCond .ge 6, 3) := by decide +kernel
theorem dX8_next_4 : decode cX8_next 4 = .ok (.bipush (-2), 2) := by decide +kernel
theorem dX8_next_6 : decode cX8_next 6 = .ok (.ireturn, 1) := by decide +kernel
theorem dX8_next_7 : decode cX8_next 7 = .ok (.iconst 0, 1) := by decide +kernel
theorem dX8_next_8 : decode cX8_next 8 = .ok (.istore_n 2, 1) := by decide +kernel
theorem dX8_next_9 : decode cX8_next 9 = .ok (.iload_n 2, 1) := by decide +kernel
theorem dX8_next_10 : decode cX8_next 10 = .ok (.aload_n 0, 1) := by decide +kernel
theorem dX8_next_11 : decode cX8_next 11 = .ok (.getfield 10, 3) := by decide +kernel
theorem dX8_next_14 : decode cX8_next 14 = .ok (.getfield 148, 3) := by decide +kernel
theorem dX8_next_17 : decode cX8_next 17 = .ok (.getfield 236, 3) := by decide +kernel
theorem dX8_next_20 : decode cX8_next 20 = .ok (.if_icmp .ge 28, 3) := by decide +kernel
theorem dX8_next_23 : decode cX8_next 23 = .ok (.aload_n 0, 1) := by decide +kernel
theorem dX8_next_24 : decode cX8_next 24 = .ok (.iload_n 2, 1) := by decide +kernel
theorem dX8_next_25 : decode cX8_next 25 = .ok (.invokevirtual 160, 3) := by decide +kernel
theorem dX8_next_28 : decode cX8_next 28 = .ok (.ifCond .eq 14, 3) := by decide +kernel
theorem dX8_next_31 : decode cX8_next 31 = .ok (.aload_n 0, 1) := by decide +kernel
theorem dX8_next_32 : decode cX8_next 32 = .ok (.iload_n 2, 1) := by decide +kernel
theorem dX8_next_33 : decode cX8_next 33 = .ok (.invokevirtual 239, 3) := by decide +kernel
theorem dX8_next_36 : decode cX8_next 36 = .ok (.iload_n 1, 1) := by decide +kernel
theorem dX8_next_37 : decode cX8_next 37 = .ok (.if_icmp .ne 5, 3) := by decide +kernel
theorem dX8_next_40 : decode cX8_next 40 = .ok (.iload_n 2, 1) := by decide +kernel
theorem dX8_next_41 : decode cX8_next 41 = .ok (.ireturn, 1) := by decide +kernel
theorem dX8_next_42 : decode cX8_next 42 = .ok (.iinc 2 1, 3) := by decide +kernel
theorem dX8_next_45 : decode cX8_next 45 = .ok (.goto (-36), 3) := by decide +kernel
theorem dX8_next_48 : decode cX8_next 48 = .ok (.bipush (-6), 2) := by decide +kernel
theorem dX8_next_50 : decode cX8_next 50 = .ok (.ireturn, 1) := by decide +kernel
theorem dX8_total_0 : decode cX8_total 0 = .ok (.iload_n 1, 1) := by decide +kernel
theorem dX8_total_1 : decode cX8_total 1 = .ok (.tableswitch 221 0 13 #[71, 79, 90, 101, 112, 123, 134, 145, 158, 171, 184, 197, 205, 213], 71) := by decide +kernel
theorem dX8_total_72 : decode cX8_total 72 = .ok (.aload_n 0, 1) := by decide +kernel
theorem dX8_total_73 : decode cX8_total 73 = .ok (.getfield 10, 3) := by decide +kernel
theorem dX8_total_76 : decode cX8_total 76 = .ok (.getfield 151, 3) := by decide +kernel
theorem dX8_total_79 : decode cX8_total 79 = .ok (.ireturn, 1) := by decide +kernel
theorem dX8_total_80 : decode cX8_total 80 = .ok (.aload_n 0, 1) := by decide +kernel
theorem dX8_total_81 : decode cX8_total 81 = .ok (.getfield 10, 3) := by decide +kernel
theorem dX8_total_84 : decode cX8_total 84 = .ok (.getfield 65, 3) := by decide +kernel
theorem dX8_total_87 : decode cX8_total 87 = .ok (.getfield 236, 3) := by decide +kernel
theorem dX8_total_90 : decode cX8_total 90 = .ok (.ireturn, 1) := by decide +kernel
theorem dX8_total_91 : decode cX8_total 91 = .ok (.aload_n 0, 1) := by decide +kernel
theorem dX8_total_92 : decode cX8_total 92 = .ok (.getfield 10, 3) := by decide +kernel
theorem dX8_total_95 : decode cX8_total 95 = .ok (.getfield 91, 3) := by decide +kernel
theorem dX8_total_98 : decode cX8_total 98 = .ok (.getfield 236, 3) := by decide +kernel
theorem dX8_total_101 : decode cX8_total 101 = .ok (.ireturn, 1) := by decide +kernel
theorem dX8_total_102 : decode cX8_total 102 = .ok (.aload_n 0, 1) := by decide +kernel
theorem dX8_total_103 : decode cX8_total 103 = .ok (.getfield 10, 3) := by decide +kernel
theorem dX8_total_106 : decode cX8_total 106 = .ok (.getfield 109, 3) := by decide +kernel
theorem dX8_total_109 : decode cX8_total 109 = .ok (.getfield 236, 3) := by decide +kernel
theorem dX8_total_112 : decode cX8_total 112 = .ok (.ireturn, 1) := by decide +kernel
theorem dX8_total_113 : decode cX8_total 113 = .ok (.aload_n 0, 1) := by decide +kernel
theorem dX8_total_114 : decode cX8_total 114 = .ok (.getfield 10, 3) := by decide +kernel
theorem dX8_total_117 : decode cX8_total 117 = .ok (.getfield 215, 3) := by decide +kernel
theorem dX8_total_120 : decode cX8_total 120 = .ok (.getfield 236, 3) := by decide +kernel
theorem dX8_total_123 : decode cX8_total 123 = .ok (.ireturn, 1) := by decide +kernel
theorem dX8_total_124 : decode cX8_total 124 = .ok (.aload_n 0, 1) := by decide +kernel
theorem dX8_total_125 : decode cX8_total 125 = .ok (.getfield 10, 3) := by decide +kernel
theorem dX8_total_128 : decode cX8_total 128 = .ok (.getfield 138, 3) := by decide +kernel
theorem dX8_total_131 : decode cX8_total 131 = .ok (.getfield 236, 3) := by decide +kernel
theorem dX8_total_134 : decode cX8_total 134 = .ok (.ireturn, 1) := by decide +kernel
theorem dX8_total_135 : decode cX8_total 135 = .ok (.aload_n 0, 1) := by decide +kernel
theorem dX8_total_136 : decode cX8_total 136 = .ok (.getfield 10, 3) := by decide +kernel
theorem dX8_total_139 : decode cX8_total 139 = .ok (.getfield 148, 3) := by decide +kernel
theorem dX8_total_142 : decode cX8_total 142 = .ok (.getfield 236, 3) := by decide +kernel
theorem dX8_total_145 : decode cX8_total 145 = .ok (.ireturn, 1) := by decide +kernel
theorem dX8_total_146 : decode cX8_total 146 = .ok (.aload_n 0, 1) := by decide +kernel
theorem dX8_total_147 : decode cX8_total 147 = .ok (.getfield 10, 3) := by decide +kernel
theorem dX8_total_150 : decode cX8_total 150 = .ok (.getfield 148, 3) := by decide +kernel
theorem dX8_total_153 : decode cX8_total 153 = .ok (.iconst 0, 1) := by decide +kernel
theorem dX8_total_154 : decode cX8_total 154 = .ok (.iconst 0, 1) := by decide +kernel
theorem dX8_total_155 : decode cX8_total 155 = .ok (.invokevirtual 141, 3) := by decide +kernel
theorem dX8_total_158 : decode cX8_total 158 = .ok (.ireturn, 1) := by decide +kernel
theorem dX8_total_159 : decode cX8_total 159 = .ok (.aload_n 0, 1) := by decide +kernel
theorem dX8_total_160 : decode cX8_total 160 = .ok (.getfield 10, 3) := by decide +kernel
theorem dX8_total_163 : decode cX8_total 163 = .ok (.getfield 148, 3) := by decide +kernel
theorem dX8_total_166 : decode cX8_total 166 = .ok (.iconst 0, 1) := by decide +kernel
theorem dX8_total_167 : decode cX8_total 167 = .ok (.iconst 1, 1) := by decide +kernel
theorem dX8_total_168 : decode cX8_total 168 = .ok (.invokevirtual 141, 3) := by decide +kernel
theorem dX8_total_171 : decode cX8_total 171 = .ok (.ireturn, 1) := by decide +kernel
theorem dX8_total_172 : decode cX8_total 172 = .ok (.aload_n 0, 1) := by decide +kernel
theorem dX8_total_173 : decode cX8_total 173 = .ok (.getfield 10, 3) := by decide +kernel
theorem dX8_total_176 : decode cX8_total 176 = .ok (.getfield 148, 3) := by decide +kernel
theorem dX8_total_179 : decode cX8_total 179 = .ok (.iconst 0, 1) := by decide +kernel
theorem dX8_total_180 : decode cX8_total 180 = .ok (.iconst 2, 1) := by decide +kernel
theorem dX8_total_181 : decode cX8_total 181 = .ok (.invokevirtual 141, 3) := by decide +kernel
theorem dX8_total_184 : decode cX8_total 184 = .ok (.ireturn, 1) := by decide +kernel
theorem dX8_total_185 : decode cX8_total 185 = .ok (.aload_n 0, 1) := by decide +kernel
theorem dX8_total_186 : decode cX8_total 186 = .ok (.getfield 10, 3) := by decide +kernel
theorem dX8_total_189 : decode cX8_total 189 = .ok (.getfield 148, 3) := by decide +kernel
theorem dX8_total_192 : decode cX8_total 192 = .ok (.iconst 0, 1) := by decide +kernel
theorem dX8_total_193 : decode cX8_total 193 = .ok (.iconst 3, 1) := by decide +kernel
theorem dX8_total_194 : decode cX8_total 194 = .ok (.invokevirtual 141, 3) := by decide +kernel
theorem dX8_total_197 : decode cX8_total 197 = .ok (.ireturn, 1) := by decide +kernel
theorem dX8_total_198 : decode cX8_total 198 = .ok (.aload_n 0, 1) := by decide +kernel
theorem dX8_total_199 : decode cX8_total 199 = .ok (.getfield 10, 3) := by decide +kernel
theorem dX8_total_202 : decode cX8_total 202 = .ok (.getfield 242, 3) := by decide +kernel
theorem dX8_total_205 : decode cX8_total 205 = .ok (.ireturn, 1) := by decide +kernel
theorem dX8_total_206 : decode cX8_total 206 = .ok (.aload_n 0, 1) := by decide +kernel
theorem dX8_total_207 : decode cX8_total 207 = .ok (.getfield 19, 3) := by decide +kernel
theorem dX8_total_210 : decode cX8_total 210 = .ok (.getfield 188, 3) := by decide +kernel
theorem dX8_total_213 : decode cX8_total 213 = .ok (.ireturn, 1) := by decide +kernel
theorem dX8_total_214 : decode cX8_total 214 = .ok (.aload_n 0, 1) := by decide +kernel
theorem dX8_total_215 : decode cX8_total 215 = .ok (.getfield 36, 3) := by decide +kernel
theorem dX8_total_218 : decode cX8_total 218 = .ok (.getfield 173, 3) := by decide +kernel
theorem dX8_total_221 : decode cX8_total 221 = .ok (.ireturn, 1) := by decide +kernel
theorem dX8_total_222 : decode cX8_total 222 = .ok (.bipush (-2), 2) := by decide +kernel
theorem dX8_total_224 : decode cX8_total 224 = .ok (.ireturn, 1) := by decide +kernel
theorem dX8_heard_0 : decode cX8_heard 0 = .ok (.aload_n 0, 1) := by decide +kernel
theorem dX8_heard_1 : decode cX8_heard 1 = .ok (.getfield 10, 3) := by decide +kernel
theorem dX8_heard_4 : decode cX8_heard 4 = .ok (.getfield 65, 3) := by decide +kernel
theorem dX8_heard_7 : decode cX8_heard 7 = .ok (.iload_n 1, 1) := by decide +kernel
theorem dX8_heard_8 : decode cX8_heard 8 = .ok (.invokevirtual 94, 3) := by decide +kernel
theorem dX8_heard_11 : decode cX8_heard 11 = .ok (.ifCond .eq 27, 3) := by decide +kernel
theorem dX8_heard_14 : decode cX8_heard 14 = .ok (.aload_n 0, 1) := by decide +kernel
theorem dX8_heard_15 : decode cX8_heard 15 = .ok (.getfield 10, 3) := by decide +kernel
theorem dX8_heard_18 : decode cX8_heard 18 = .ok (.getfield 91, 3) := by decide +kernel
theorem dX8_heard_21 : decode cX8_heard 21 = .ok (.iload_n 2, 1) := by decide +kernel
theorem dX8_heard_22 : decode cX8_heard 22 = .ok (.invokevirtual 94, 3) := by decide +kernel
theorem dX8_heard_25 : decode cX8_heard 25 = .ok (.ifCond .eq 13, 3) := by decide +kernel
theorem dX8_heard_28 : decode cX8_heard 28 = .ok (.aload_n 0, 1) := by decide +kernel
theorem dX8_heard_29 : decode cX8_heard 29 = .ok (.iload_n 1, 1) := by decide +kernel
theorem dX8_heard_30 : decode cX8_heard 30 = .ok (.iload 5, 2) := by decide +kernel
theorem dX8_heard_32 : decode cX8_heard 32 = .ok (.invokevirtual 218, 3) := by decide +kernel
theorem dX8_heard_35 : decode cX8_heard 35 = .ok (.ifCond .ne 5, 3) := by decide +kernel
theorem dX8_heard_38 : decode cX8_heard 38 = .ok (.iconst (-1), 1) := by decide +kernel
theorem dX8_heard_39 : decode cX8_heard 39 = .ok (.ireturn, 1) := by decide +kernel
theorem dX8_heard_40 : decode cX8_heard 40 = .ok (.aload_n 0, 1) := by decide +kernel
theorem dX8_heard_41 : decode cX8_heard 41 = .ok (.iload_n 2, 1) := by decide +kernel
theorem dX8_heard_42 : decode cX8_heard 42 = .ok (.iload_n 3, 1) := by decide +kernel
theorem dX8_heard_43 : decode cX8_heard 43 = .ok (.invokevirtual 245, 3) := by decide +kernel
theorem dX8_heard_46 : decode cX8_heard 46 = .ok (.ifCond .eq 11, 3) := by decide +kernel
theorem dX8_heard_49 : decode cX8_heard 49 = .ok (.iload 4, 2) := by decide +kernel
theorem dX8_heard_51 : decode cX8_heard 51 = .ok (.invokestatic 248, 3) := by decide +kernel
theorem dX8_heard_54 : decode cX8_heard 54 = .ok (.ifCond .ne 6, 3) := by decide +kernel
theorem dX8_heard_57 : decode cX8_heard 57 = .ok (.bipush (-2), 2) := by decide +kernel
theorem dX8_heard_59 : decode cX8_heard 59 = .ok (.ireturn, 1) := by decide +kernel
theorem dX8_heard_60 : decode cX8_heard 60 = .ok (.aload_n 0, 1) := by decide +kernel
theorem dX8_heard_61 : decode cX8_heard 61 = .ok (.iload_n 1, 1) := by decide +kernel
theorem dX8_heard_62 : decode cX8_heard 62 = .ok (.iload_n 2, 1) := by decide +kernel
theorem dX8_heard_63 : decode cX8_heard 63 = .ok (.invokevirtual 251, 3) := by decide +kernel
theorem dX8_heard_66 : decode cX8_heard 66 = .ok (.ifCond .ne 6, 3) := by decide +kernel
theorem dX8_heard_69 : decode cX8_heard 69 = .ok (.bipush (-3), 2) := by decide +kernel
theorem dX8_heard_71 : decode cX8_heard 71 = .ok (.ireturn, 1) := by decide +kernel
theorem dX8_heard_72 : decode cX8_heard 72 = .ok (.aload_n 0, 1) := by decide +kernel
theorem dX8_heard_73 : decode cX8_heard 73 = .ok (.iload_n 1, 1) := by decide +kernel
theorem dX8_heard_74 : decode cX8_heard 74 = .ok (.iload_n 2, 1) := by decide +kernel
theorem dX8_heard_75 : decode cX8_heard 75 = .ok (.iload_n 3, 1) := by decide +kernel
theorem dX8_heard_76 : decode cX8_heard 76 = .ok (.iload 4, 2) := by decide +kernel
theorem dX8_heard_78 : decode cX8_heard 78 = .ok (.iload 5, 2) := by decide +kernel
theorem dX8_heard_80 : decode cX8_heard 80 = .ok (.invokevirtual 254, 3) := by decide +kernel
theorem dX8_heard_83 : decode cX8_heard 83 = .ok (.ireturn, 1) := by decide +kernel
theorem dX8_duration_0 : decode cX8_duration 0 = .ok (.aload_n 0, 1) := by decide +kernel
theorem dX8_duration_1 : decode cX8_duration 1 = .ok (.getfield 10, 3) := by decide +kernel
theorem dX8_duration_4 : decode cX8_duration 4 = .ok (.getfield 65, 3) := by decide +kernel
theorem dX8_duration_7 : decode cX8_duration 7 = .ok (.iload_n 1, 1) := by decide +kernel
theorem dX8_duration_8 : decode cX8_duration 8 = .ok (.invokevirtual 94, 3) := by decide +kernel
theorem dX8_duration_11 : decode cX8_duration 11 = .ok (.ifCond .ne 5, 3) := by decide +kernel
theorem dX8_duration_14 : decode cX8_duration 14 = .ok (.iconst (-1), 1) := by decide +kernel
theorem dX8_duration_15 : decode cX8_duration 15 = .ok (.ireturn, 1) := by decide +kernel
theorem dX8_duration_16 : decode cX8_duration 16 = .ok (.aload_n 0, 1) := by decide +kernel
theorem dX8_duration_17 : decode cX8_duration 17 = .ok (.getfield 10, 3) := by decide +kernel
theorem dX8_duration_20 : decode cX8_duration 20 = .ok (.getfield 65, 3) := by decide +kernel
theorem dX8_duration_23 : decode cX8_duration 23 = .ok (.iload_n 1, 1) := by decide +kernel
theorem dX8_duration_24 : decode cX8_duration 24 = .ok (.iconst 0, 1) := by decide +kernel
theorem dX8_duration_25 : decode cX8_duration 25 = .ok (.invokevirtual 98, 3) := by decide +kernel
theorem dX8_duration_28 : decode cX8_duration 28 = .ok (.iload_n 2, 1) := by decide +kernel
theorem dX8_duration_29 : decode cX8_duration 29 = .ok (.invokestatic 57, 3) := by decide +kernel
theorem dX8_duration_32 : decode cX8_duration 32 = .ok (.ifCond .ge 6, 3) := by decide +kernel
theorem dX8_duration_35 : decode cX8_duration 35 = .ok (.bipush (-2), 2) := by decide +kernel
theorem dX8_duration_37 : decode cX8_duration 37 = .ok (.ireturn, 1) := by decide +kernel
theorem dX8_duration_38 : decode cX8_duration 38 = .ok (.aload_n 0, 1) := by decide +kernel
theorem dX8_duration_39 : decode cX8_duration 39 = .ok (.iload_n 1, 1) := by decide +kernel
theorem dX8_duration_40 : decode cX8_duration 40 = .ok (.iload_n 2, 1) := by decide +kernel
theorem dX8_duration_41 : decode cX8_duration 41 = .ok (.invokevirtual 257, 3) := by decide +kernel
theorem dX8_duration_44 : decode cX8_duration 44 = .ok (.ireturn, 1) := by decide +kernel
theorem dX8_isWithin_0 : decode cX8_isWithin 0 = .ok (.iload_n 0, 1) := by decide +kernel
theorem dX8_isWithin_1 : decode cX8_isWithin 1 = .ok (.iload_n 1, 1) := by decide +kernel
theorem dX8_isWithin_2 : decode cX8_isWithin 2 = .ok (.if_icmp .lt 12, 3) := by decide +kernel
theorem dX8_isWithin_5 : decode cX8_isWithin 5 = .ok (.iload_n 0, 1) := by decide +kernel
theorem dX8_isWithin_6 : decode cX8_isWithin 6 = .ok (.iload_n 2, 1) := by decide +kernel
theorem dX8_isWithin_7 : decode cX8_isWithin 7 = .ok (.if_icmp .gt 7, 3) := by decide +kernel
theorem dX8_isWithin_10 : decode cX8_isWithin 10 = .ok (.iconst 1, 1) := by decide +kernel
theorem dX8_isWithin_11 : decode cX8_isWithin 11 = .ok (.goto 4, 3) := by decide +kernel
theorem dX8_isWithin_14 : decode cX8_isWithin 14 = .ok (.iconst 0, 1) := by decide +kernel
theorem dX8_isWithin_15 : decode cX8_isWithin 15 = .ok (.ireturn, 1) := by decide +kernel
theorem dX8_isPerson_0 : decode cX8_isPerson 0 = .ok (.iload_n 0, 1) := by decide +kernel
theorem dX8_isPerson_1 : decode cX8_isPerson 1 = .ok (.iconst 0, 1) := by decide +kernel
theorem dX8_isPerson_2 : decode cX8_isPerson 2 = .ok (.bipush 7, 2) := by decide +kernel
theorem dX8_isPerson_4 : decode cX8_isPerson 4 = .ok (.invokestatic 61, 3) := by decide +kernel
theorem dX8_isPerson_7 : decode cX8_isPerson 7 = .ok (.ireturn, 1) := by decide +kernel
theorem dX8_isUse_0 : decode cX8_isUse 0 = .ok (.iload_n 0, 1) := by decide +kernel
theorem dX8_isUse_1 : decode cX8_isUse 1 = .ok (.iconst 0, 1) := by decide +kernel
theorem dX8_isUse_2 : decode cX8_isUse 2 = .ok (.iconst 2, 1) := by decide +kernel
theorem dX8_isUse_3 : decode cX8_isUse 3 = .ok (.invokestatic 61, 3) := by decide +kernel
theorem dX8_isUse_6 : decode cX8_isUse 6 = .ok (.ireturn, 1) := by decide +kernel
theorem dX8_isSide_0 : decode cX8_isSide 0 = .ok (.iload_n 0, 1) := by decide +kernel
theorem dX8_isSide_1 : decode cX8_isSide 1 = .ok (.iconst 0, 1) := by decide +kernel
theorem dX8_isSide_2 : decode cX8_isSide 2 = .ok (.iconst 1, 1) := by decide +kernel
theorem dX8_isSide_3 : decode cX8_isSide 3 = .ok (.invokestatic 61, 3) := by decide +kernel
theorem dX8_isSide_6 : decode cX8_isSide 6 = .ok (.ireturn, 1) := by decide +kernel
theorem dX8_isStretch_0 : decode cX8_isStretch 0 = .ok (.iload_n 0, 1) := by decide +kernel
theorem dX8_isStretch_1 : decode cX8_isStretch 1 = .ok (.ifCond .lt 17, 3) := by decide +kernel
theorem dX8_isStretch_4 : decode cX8_isStretch 4 = .ok (.iload_n 0, 1) := by decide +kernel
theorem dX8_isStretch_5 : decode cX8_isStretch 5 = .ok (.iload_n 1, 1) := by decide +kernel
theorem dX8_isStretch_6 : decode cX8_isStretch 6 = .ok (.if_icmp .ge 12, 3) := by decide +kernel
theorem dX8_isStretch_9 : decode cX8_isStretch 9 = .ok (.iload_n 1, 1) := by decide +kernel
theorem dX8_isStretch_10 : decode cX8_isStretch 10 = .ok (.iload_n 2, 1) := by decide +kernel
theorem dX8_isStretch_11 : decode cX8_isStretch 11 = .ok (.if_icmp .gt 7, 3) := by decide +kernel
theorem dX8_isStretch_14 : decode cX8_isStretch 14 = .ok (.iconst 1, 1) := by decide +kernel
theorem dX8_isStretch_15 : decode cX8_isStretch 15 = .ok (.goto 4, 3) := by decide +kernel
theorem dX8_isStretch_18 : decode cX8_isStretch 18 = .ok (.iconst 0, 1) := by decide +kernel
theorem dX8_isStretch_19 : decode cX8_isStretch 19 = .ok (.ireturn, 1) := by decide +kernel
theorem dX8_isOpen_0 : decode cX8_isOpen 0 = .ok (.aload_n 0, 1) := by decide +kernel
theorem dX8_isOpen_1 : decode cX8_isOpen 1 = .ok (.getfield 10, 3) := by decide +kernel
theorem dX8_isOpen_4 : decode cX8_isOpen 4 = .ok (.getfield 148, 3) := by decide +kernel
theorem dX8_isOpen_7 : decode cX8_isOpen 7 = .ok (.iload_n 1, 1) := by decide +kernel
theorem dX8_isOpen_8 : decode cX8_isOpen 8 = .ok (.iconst 0, 1) := by decide +kernel
theorem dX8_isOpen_9 : decode cX8_isOpen 9 = .ok (.invokevirtual 98, 3) := by decide +kernel
theorem dX8_isOpen_12 : decode cX8_isOpen 12 = .ok (.ifCond .ne 7, 3) := by decide +kernel
theorem dX8_isOpen_15 : decode cX8_isOpen 15 = .ok (.iconst 1, 1) := by decide +kernel
theorem dX8_isOpen_16 : decode cX8_isOpen 16 = .ok (.goto 4, 3) := by decide +kernel
theorem dX8_isOpen_19 : decode cX8_isOpen 19 = .ok (.iconst 0, 1) := by decide +kernel
theorem dX8_isOpen_20 : decode cX8_isOpen 20 = .ok (.ireturn, 1) := by decide +kernel
theorem dX8_isSameKind_0 : decode cX8_isSameKind 0 = .ok (.aload_n 0, 1) := by decide +kernel
theorem dX8_isSameKind_1 : decode cX8_isSameKind 1 = .ok (.getfield 10, 3) := by decide +kernel
theorem dX8_isSameKind_4 : decode cX8_isSameKind 4 = .ok (.getfield 65, 3) := by decide +kernel
theorem dX8_isSameKind_7 : decode cX8_isSameKind 7 = .ok (.iload_n 1, 1) := by decide +kernel
theorem dX8_isSameKind_8 : decode cX8_isSameKind 8 = .ok (.iconst 0, 1) := by decide +kernel
theorem dX8_isSameKind_9 : decode cX8_isSameKind 9 = .ok (.invokevirtual 98, 3) := by decide +kernel
theorem dX8_isSameKind_12 : decode cX8_isSameKind 12 = .ok (.aload_n 0, 1) := by decide +kernel
theorem dX8_isSameKind_13 : decode cX8_isSameKind 13 = .ok (.getfield 10, 3) := by decide +kernel
theorem dX8_isSameKind_16 : decode cX8_isSameKind 16 = .ok (.getfield 91, 3) := by decide +kernel
theorem dX8_isSameKind_19 : decode cX8_isSameKind 19 = .ok (.iload_n 2, 1) := by decide +kernel
theorem dX8_isSameKind_20 : decode cX8_isSameKind 20 = .ok (.iconst 0, 1) := by decide +kernel
theorem dX8_isSameKind_21 : decode cX8_isSameKind 21 = .ok (.invokevirtual 98, 3) := by decide +kernel
theorem dX8_isSameKind_24 : decode cX8_isSameKind 24 = .ok (.if_icmp .ne 7, 3) := by decide +kernel
theorem dX8_isSameKind_27 : decode cX8_isSameKind 27 = .ok (.iconst 1, 1) := by decide +kernel
theorem dX8_isSameKind_28 : decode cX8_isSameKind 28 = .ok (.goto 4, 3) := by decide +kernel
theorem dX8_isSameKind_31 : decode cX8_isSameKind 31 = .ok (.iconst 0, 1) := by decide +kernel
theorem dX8_isSameKind_32 : decode cX8_isSameKind 32 = .ok (.ireturn, 1) := by decide +kernel
theorem dX8_hasTrack_0 : decode cX8_hasTrack 0 = .ok (.iload_n 2, 1) := by decide +kernel
theorem dX8_hasTrack_1 : decode cX8_hasTrack 1 = .ok (.iconst 0, 1) := by decide +kernel
theorem dX8_hasTrack_2 : decode cX8_hasTrack 2 = .ok (.aload_n 0, 1) := by decide +kernel
theorem dX8_hasTrack_3 : decode cX8_hasTrack 3 = .ok (.getfield 10, 3) := by decide +kernel
theorem dX8_hasTrack_6 : decode cX8_hasTrack 6 = .ok (.getfield 65, 3) := by decide +kernel
theorem dX8_hasTrack_9 : decode cX8_hasTrack 9 = .ok (.iload_n 1, 1) := by decide +kernel
theorem dX8_hasTrack_10 : decode cX8_hasTrack 10 = .ok (.iconst 2, 1) := by decide +kernel
theorem dX8_hasTrack_11 : decode cX8_hasTrack 11 = .ok (.invokevirtual 98, 3) := by decide +kernel
theorem dX8_hasTrack_14 : decode cX8_hasTrack 14 = .ok (.invokestatic 276, 3) := by decide +kernel
theorem dX8_hasTrack_17 : decode cX8_hasTrack 17 = .ok (.iconst 1, 1) := by decide +kernel
theorem dX8_hasTrack_18 : decode cX8_hasTrack 18 = .ok (.isub, 1) := by decide +kernel
theorem dX8_hasTrack_19 : decode cX8_hasTrack 19 = .ok (.invokestatic 61, 3) := by decide +kernel
theorem dX8_hasTrack_22 : decode cX8_hasTrack 22 = .ok (.ireturn, 1) := by decide +kernel
theorem dX8_canPlay_0 : decode cX8_canPlay 0 = .ok (.aload_n 0, 1) := by decide +kernel
theorem dX8_canPlay_1 : decode cX8_canPlay 1 = .ok (.getfield 10, 3) := by decide +kernel
theorem dX8_canPlay_4 : decode cX8_canPlay 4 = .ok (.getfield 91, 3) := by decide +kernel
theorem dX8_canPlay_7 : decode cX8_canPlay 7 = .ok (.iload_n 1, 1) := by decide +kernel
theorem dX8_canPlay_8 : decode cX8_canPlay 8 = .ok (.iconst 0, 1) := by decide +kernel
theorem dX8_canPlay_9 : decode cX8_canPlay 9 = .ok (.invokevirtual 98, 3) := by decide +kernel
theorem dX8_canPlay_12 : decode cX8_canPlay 12 = .ok (.iload_n 2, 1) := by decide +kernel
theorem dX8_canPlay_13 : decode cX8_canPlay 13 = .ok (.invokestatic 57, 3) := by decide +kernel
theorem dX8_canPlay_16 : decode cX8_canPlay 16 = .ok (.istore_n 3, 1) := by decide +kernel
theorem dX8_canPlay_17 : decode cX8_canPlay 17 = .ok (.iload_n 3, 1) := by decide +kernel
theorem dX8_canPlay_18 : decode cX8_canPlay 18 = .ok (.ifCond .lt 26, 3) := by decide +kernel
theorem dX8_canPlay_21 : decode cX8_canPlay 21 = .ok (.aload_n 0, 1) := by decide +kernel
theorem dX8_canPlay_22 : decode cX8_canPlay 22 = .ok (.getfield 10, 3) := by decide +kernel
theorem dX8_canPlay_25 : decode cX8_canPlay 25 = .ok (.getfield 91, 3) := by decide +kernel
theorem dX8_canPlay_28 : decode cX8_canPlay 28 = .ok (.iload_n 1, 1) := by decide +kernel
theorem dX8_canPlay_29 : decode cX8_canPlay 29 = .ok (.iconst 1, 1) := by decide +kernel
theorem dX8_canPlay_30 : decode cX8_canPlay 30 = .ok (.invokevirtual 98, 3) := by decide +kernel
theorem dX8_canPlay_33 : decode cX8_canPlay 33 = .ok (.iconst 1, 1) := by decide +kernel
theorem dX8_canPlay_34 : decode cX8_canPlay 34 = .ok (.iload_n 3, 1) := by decide +kernel
theorem dX8_canPlay_35 : decode cX8_canPlay 35 = .ok (.ishl, 1) := by decide +kernel
theorem dX8_canPlay_36 : decode cX8_canPlay 36 = .ok (.iand, 1) := by decide +kernel
theorem dX8_canPlay_37 : decode cX8_canPlay 37 = .ok (.ifCond .eq 7, 3) := by decide +kernel
theorem dX8_canPlay_40 : decode cX8_canPlay 40 = .ok (.iconst 1, 1) := by decide +kernel
theorem dX8_canPlay_41 : decode cX8_canPlay 41 = .ok (.goto 4, 3) := by decide +kernel
theorem dX8_canPlay_44 : decode cX8_canPlay 44 = .ok (.iconst 0, 1) := by decide +kernel
theorem dX8_canPlay_45 : decode cX8_canPlay 45 = .ok (.ireturn, 1) := by decide +kernel
theorem dX8_isTaken_0 : decode cX8_isTaken 0 = .ok (.iconst 0, 1) := by decide +kernel
theorem dX8_isTaken_1 : decode cX8_isTaken 1 = .ok (.istore 5, 2) := by decide +kernel
theorem dX8_isTaken_3 : decode cX8_isTaken 3 = .ok (.iload 5, 2) := by decide +kernel
theorem dX8_isTaken_5 : decode cX8_isTaken 5 = .ok (.aload_n 0, 1) := by decide +kernel
theorem dX8_isTaken_6 : decode cX8_isTaken 6 = .ok (.getfield 10, 3) := by decide +kernel
theorem dX8_isTaken_9 : decode cX8_isTaken 9 = .ok (.getfield 109, 3) := by decide +kernel
theorem dX8_isTaken_12 : decode cX8_isTaken 12 = .ok (.getfield 236, 3) := by decide +kernel
theorem dX8_isTaken_15 : decode cX8_isTaken 15 = .ok (.if_icmp .ge 81, 3) := by decide +kernel
theorem dX8_isTaken_18 : decode cX8_isTaken 18 = .ok (.aload_n 0, 1) := by decide +kernel
theorem dX8_isTaken_19 : decode cX8_isTaken 19 = .ok (.getfield 10, 3) := by decide +kernel
theorem dX8_isTaken_22 : decode cX8_isTaken 22 = .ok (.getfield 109, 3) := by decide +kernel
theorem dX8_isTaken_25 : decode cX8_isTaken 25 = .ok (.iload 5, 2) := by decide +kernel
theorem dX8_isTaken_27 : decode cX8_isTaken 27 = .ok (.iconst 0, 1) := by decide +kernel
theorem dX8_isTaken_28 : decode cX8_isTaken 28 = .ok (.invokevirtual 98, 3) := by decide +kernel
theorem dX8_isTaken_31 : decode cX8_isTaken 31 = .ok (.iload_n 1, 1) := by decide +kernel
theorem dX8_isTaken_32 : decode cX8_isTaken 32 = .ok (.if_icmp .ne 58, 3) := by decide +kernel
theorem dX8_isTaken_35 : decode cX8_isTaken 35 = .ok (.aload_n 0, 1) := by decide +kernel
theorem dX8_isTaken_36 : decode cX8_isTaken 36 = .ok (.getfield 10, 3) := by decide +kernel
theorem dX8_isTaken_39 : decode cX8_isTaken 39 = .ok (.getfield 109, 3) := by decide +kernel
theorem dX8_isTaken_42 : decode cX8_isTaken 42 = .ok (.iload 5, 2) := by decide +kernel
theorem dX8_isTaken_44 : decode cX8_isTaken 44 = .ok (.iconst 1, 1) := by decide +kernel
theorem dX8_isTaken_45 : decode cX8_isTaken 45 = .ok (.invokevirtual 98, 3) := by decide +kernel
theorem dX8_isTaken_48 : decode cX8_isTaken 48 = .ok (.iload_n 2, 1) := by decide +kernel
theorem dX8_isTaken_49 : decode cX8_isTaken 49 = .ok (.iand, 1) := by decide +kernel
theorem dX8_isTaken_50 : decode cX8_isTaken 50 = .ok (.ifCond .eq 40, 3) := by decide +kernel
theorem dX8_isTaken_53 : decode cX8_isTaken 53 = .ok (.iload_n 3, 1) := by decide +kernel
theorem dX8_isTaken_54 : decode cX8_isTaken 54 = .ok (.aload_n 0, 1) := by decide +kernel
theorem dX8_isTaken_55 : decode cX8_isTaken 55 = .ok (.getfield 10, 3) := by decide +kernel
theorem dX8_isTaken_58 : decode cX8_isTaken 58 = .ok (.getfield 109, 3) := by decide +kernel
theorem dX8_isTaken_61 : decode cX8_isTaken 61 = .ok (.iload 5, 2) := by decide +kernel
theorem dX8_isTaken_63 : decode cX8_isTaken 63 = .ok (.iconst 3, 1) := by decide +kernel
theorem dX8_isTaken_64 : decode cX8_isTaken 64 = .ok (.invokevirtual 98, 3) := by decide +kernel
theorem dX8_isTaken_67 : decode cX8_isTaken 67 = .ok (.if_icmp .ge 23, 3) := by decide +kernel
theorem dX8_isTaken_70 : decode cX8_isTaken 70 = .ok (.aload_n 0, 1) := by decide +kernel
theorem dX8_isTaken_71 : decode cX8_isTaken 71 = .ok (.getfield 10, 3) := by decide +kernel
theorem dX8_isTaken_74 : decode cX8_isTaken 74 = .ok (.getfield 109, 3) := by decide +kernel
theorem dX8_isTaken_77 : decode cX8_isTaken 77 = .ok (.iload 5, 2) := by decide +kernel
theorem dX8_isTaken_79 : decode cX8_isTaken 79 = .ok (.iconst 2, 1) := by decide +kernel
theorem dX8_isTaken_80 : decode cX8_isTaken 80 = .ok (.invokevirtual 98, 3) := by decide +kernel
theorem dX8_isTaken_83 : decode cX8_isTaken 83 = .ok (.iload 4, 2) := by decide +kernel
theorem dX8_isTaken_85 : decode cX8_isTaken 85 = .ok (.if_icmp .ge 5, 3) := by decide +kernel
theorem dX8_isTaken_88 : decode cX8_isTaken 88 = .ok (.iconst 1, 1) := by decide +kernel
theorem dX8_isTaken_89 : decode cX8_isTaken 89 = .ok (.ireturn, 1) := by decide +kernel
theorem dX8_isTaken_90 : decode cX8_isTaken 90 = .ok (.iinc 5 1, 3) := by decide +kernel
theorem dX8_isTaken_93 : decode cX8_isTaken 93 = .ok (.goto (-90), 3) := by decide +kernel
theorem dX8_isTaken_96 : decode cX8_isTaken 96 = .ok (.iconst 0, 1) := by decide +kernel
theorem dX8_isTaken_97 : decode cX8_isTaken 97 = .ok (.ireturn, 1) := by decide +kernel
theorem dX8_errorOfExcerpt_0 : decode cX8_errorOfExcerpt 0 = .ok (.aload_n 0, 1) := by decide +kernel
theorem dX8_errorOfExcerpt_1 : decode cX8_errorOfExcerpt 1 = .ok (.getfield 10, 3) := by decide +kernel
theorem dX8_errorOfExcerpt_4 : decode cX8_errorOfExcerpt 4 = .ok (.getfield 109, 3) := by decide +kernel
theorem dX8_errorOfExcerpt_7 : decode cX8_errorOfExcerpt 7 = .ok (.iload_n 2, 1) := by decide +kernel
theorem dX8_errorOfExcerpt_8 : decode cX8_errorOfExcerpt 8 = .ok (.invokevirtual 94, 3) := by decide +kernel
theorem dX8_errorOfExcerpt_11 : decode cX8_errorOfExcerpt 11 = .ok (.ifCond .ne 5, 3) := by decide +kernel
theorem dX8_errorOfExcerpt_14 : decode cX8_errorOfExcerpt 14 = .ok (.iconst (-1), 1) := by decide +kernel
theorem dX8_errorOfExcerpt_15 : decode cX8_errorOfExcerpt 15 = .ok (.ireturn, 1) := by decide +kernel
theorem dX8_errorOfExcerpt_16 : decode cX8_errorOfExcerpt 16 = .ok (.iload_n 1, 1) := by decide +kernel
theorem dX8_errorOfExcerpt_17 : decode cX8_errorOfExcerpt 17 = .ok (.invokestatic 122, 3) := by decide +kernel
theorem dX8_errorOfExcerpt_20 : decode cX8_errorOfExcerpt 20 = .ok (.ifCond .eq 29, 3) := by decide +kernel
theorem dX8_errorOfExcerpt_23 : decode cX8_errorOfExcerpt 23 = .ok (.iload_n 3, 1) := by decide +kernel
theorem dX8_errorOfExcerpt_24 : decode cX8_errorOfExcerpt 24 = .ok (.iload 4, 2) := by decide +kernel
theorem dX8_errorOfExcerpt_26 : decode cX8_errorOfExcerpt 26 = .ok (.aload_n 0, 1) := by decide +kernel
theorem dX8_errorOfExcerpt_27 : decode cX8_errorOfExcerpt 27 = .ok (.iload_n 2, 1) := by decide +kernel
theorem dX8_errorOfExcerpt_28 : decode cX8_errorOfExcerpt 28 = .ok (.invokevirtual 119, 3) := by decide +kernel
theorem dX8_errorOfExcerpt_31 : decode cX8_errorOfExcerpt 31 = .ok (.invokestatic 106, 3) := by decide +kernel
theorem dX8_errorOfExcerpt_34 : decode cX8_errorOfExcerpt 34 = .ok (.ifCond .eq 15, 3) := by decide +kernel
theorem dX8_errorOfExcerpt_37 : decode cX8_errorOfExcerpt 37 = .ok (.iload 5, 2) := by decide +kernel
theorem dX8_errorOfExcerpt_39 : decode cX8_errorOfExcerpt 39 = .ok (.invokestatic 135, 3) := by decide +kernel
theorem dX8_errorOfExcerpt_42 : decode cX8_errorOfExcerpt 42 = .ok (.ifCond .eq 7, 3) := by decide +kernel
theorem dX8_errorOfExcerpt_45 : decode cX8_errorOfExcerpt 45 = .ok (.iconst 1, 1) := by decide +kernel
theorem dX8_errorOfExcerpt_46 : decode cX8_errorOfExcerpt 46 = .ok (.goto 4, 3) := by decide +kernel
theorem dX8_errorOfExcerpt_49 : decode cX8_errorOfExcerpt 49 = .ok (.iconst 0, 1) := by decide +kernel
theorem dX8_errorOfExcerpt_50 : decode cX8_errorOfExcerpt 50 = .ok (.istore 6, 2) := by decide +kernel
theorem dX8_errorOfExcerpt_52 : decode cX8_errorOfExcerpt 52 = .ok (.iload 6, 2) := by decide +kernel
theorem dX8_errorOfExcerpt_54 : decode cX8_errorOfExcerpt 54 = .ok (.ifCond .eq 7, 3) := by decide +kernel
theorem dX8_errorOfExcerpt_57 : decode cX8_errorOfExcerpt 57 = .ok (.iconst 0, 1) := by decide +kernel
theorem dX8_errorOfExcerpt_58 : decode cX8_errorOfExcerpt 58 = .ok (.goto 5, 3) := by decide +kernel
theorem dX8_errorOfExcerpt_61 : decode cX8_errorOfExcerpt 61 = .ok (.bipush (-2), 2) := by decide +kernel
theorem dX8_errorOfExcerpt_63 : decode cX8_errorOfExcerpt 63 = .ok (.ireturn, 1) := by decide +kernel
theorem dX8_lengthOfRecording_0 : decode cX8_lengthOfRecording 0 = .ok (.aload_n 0, 1) := by decide +kernel
theorem dX8_lengthOfRecording_1 : decode cX8_lengthOfRecording 1 = .ok (.getfield 10, 3) := by decide +kernel
theorem dX8_lengthOfRecording_4 : decode cX8_lengthOfRecording 4 = .ok (.getfield 109, 3) := by decide +kernel
theorem dX8_lengthOfRecording_7 : decode cX8_lengthOfRecording 7 = .ok (.iload_n 1, 1) := by decide +kernel
theorem dX8_lengthOfRecording_8 : decode cX8_lengthOfRecording 8 = .ok (.iconst 3, 1) := by decide +kernel
theorem dX8_lengthOfRecording_9 : decode cX8_lengthOfRecording 9 = .ok (.invokevirtual 98, 3) := by decide +kernel
theorem dX8_lengthOfRecording_12 : decode cX8_lengthOfRecording 12 = .ok (.aload_n 0, 1) := by decide +kernel
theorem dX8_lengthOfRecording_13 : decode cX8_lengthOfRecording 13 = .ok (.getfield 10, 3) := by decide +kernel
theorem dX8_lengthOfRecording_16 : decode cX8_lengthOfRecording 16 = .ok (.getfield 109, 3) := by decide +kernel
theorem dX8_lengthOfRecording_19 : decode cX8_lengthOfRecording 19 = .ok (.iload_n 1, 1) := by decide +kernel
theorem dX8_lengthOfRecording_20 : decode cX8_lengthOfRecording 20 = .ok (.iconst 2, 1) := by decide +kernel
theorem dX8_lengthOfRecording_21 : decode cX8_lengthOfRecording 21 = .ok (.invokevirtual 98, 3) := by decide +kernel
theorem dX8_lengthOfRecording_24 : decode cX8_lengthOfRecording 24 = .ok (.isub, 1) := by decide +kernel
theorem dX8_lengthOfRecording_25 : decode cX8_lengthOfRecording 25 = .ok (.ireturn, 1) := by decide +kernel
theorem dX8_look_0 : decode cX8_look 0 = .ok (.aload_n 0, 1) := by decide +kernel
theorem dX8_look_1 : decode cX8_look 1 = .ok (.iload_n 1, 1) := by decide +kernel
theorem dX8_look_2 : decode cX8_look 2 = .ok (.invokevirtual 94, 3) := by decide +kernel
theorem dX8_look_5 : decode cX8_look 5 = .ok (.ifCond .ne 5, 3) := by decide +kernel
theorem dX8_look_8 : decode cX8_look 8 = .ok (.iconst (-1), 1) := by decide +kernel
theorem dX8_look_9 : decode cX8_look 9 = .ok (.ireturn, 1) := by decide +kernel
theorem dX8_look_10 : decode cX8_look 10 = .ok (.iload_n 2, 1) := by decide +kernel
theorem dX8_look_11 : decode cX8_look 11 = .ok (.iconst 0, 1) := by decide +kernel
theorem dX8_look_12 : decode cX8_look 12 = .ok (.iload_n 3, 1) := by decide +kernel
theorem dX8_look_13 : decode cX8_look 13 = .ok (.iconst 1, 1) := by decide +kernel
theorem dX8_look_14 : decode cX8_look 14 = .ok (.isub, 1) := by decide +kernel
theorem dX8_look_15 : decode cX8_look 15 = .ok (.invokestatic 61, 3) := by decide +kernel
theorem dX8_look_18 : decode cX8_look 18 = .ok (.ifCond .eq 12, 3) := by decide +kernel
theorem dX8_look_21 : decode cX8_look 21 = .ok (.aload_n 0, 1) := by decide +kernel
theorem dX8_look_22 : decode cX8_look 22 = .ok (.iload_n 1, 1) := by decide +kernel
theorem dX8_look_23 : decode cX8_look 23 = .ok (.iload_n 2, 1) := by decide +kernel
theorem dX8_look_24 : decode cX8_look 24 = .ok (.invokevirtual 98, 3) := by decide +kernel
theorem dX8_look_27 : decode cX8_look 27 = .ok (.goto 5, 3) := by decide +kernel
theorem dX8_look_30 : decode cX8_look 30 = .ok (.bipush (-2), 2) := by decide +kernel
theorem dX8_look_32 : decode cX8_look 32 = .ok (.ireturn, 1) := by decide +kernel
theorem dX8_slotOf_0 : decode cX8_slotOf 0 = .ok (.iload_n 1, 1) := by decide +kernel
theorem dX8_slotOf_1 : decode cX8_slotOf 1 = .ok (.lookupswitch 37 #[(0, 27), (1, 32)], 27) := by decide +kernel
theorem dX8_slotOf_28 : decode cX8_slotOf 28 = .ok (.aload_n 0, 1) := by decide +kernel
theorem dX8_slotOf_29 : decode cX8_slotOf 29 = .ok (.getfield 26, 3) := by decide +kernel
theorem dX8_slotOf_32 : decode cX8_slotOf 32 = .ok (.areturn, 1) := by decide +kernel
theorem dX8_slotOf_33 : decode cX8_slotOf 33 = .ok (.aload_n 0, 1) := by decide +kernel
theorem dX8_slotOf_34 : decode cX8_slotOf 34 = .ok (.getfield 30, 3) := by decide +kernel
theorem dX8_slotOf_37 : decode cX8_slotOf 37 = .ok (.areturn, 1) := by decide +kernel
theorem dX8_slotOf_38 : decode cX8_slotOf 38 = .ok (.aconst_null, 1) := by decide +kernel
theorem dX8_slotOf_39 : decode cX8_slotOf 39 = .ok (.areturn, 1) := by decide +kernel
theorem dX8_tryPass_0 : decode cX8_tryPass 0 = .ok (.aload_n 0, 1) := by decide +kernel
theorem dX8_tryPass_1 : decode cX8_tryPass 1 = .ok (.getfield 10, 3) := by decide +kernel
theorem dX8_tryPass_4 : decode cX8_tryPass 4 = .ok (.getfield 65, 3) := by decide +kernel
theorem dX8_tryPass_7 : decode cX8_tryPass 7 = .ok (.iload_n 1, 1) := by decide +kernel
theorem dX8_tryPass_8 : decode cX8_tryPass 8 = .ok (.invokevirtual 94, 3) := by decide +kernel
theorem dX8_tryPass_11 : decode cX8_tryPass 11 = .ok (.ifCond .eq 17, 3) := by decide +kernel
theorem dX8_tryPass_14 : decode cX8_tryPass 14 = .ok (.aload_n 0, 1) := by decide +kernel
theorem dX8_tryPass_15 : decode cX8_tryPass 15 = .ok (.getfield 10, 3) := by decide +kernel
theorem dX8_tryPass_18 : decode cX8_tryPass 18 = .ok (.getfield 91, 3) := by decide +kernel
theorem dX8_tryPass_21 : decode cX8_tryPass 21 = .ok (.iload_n 2, 1) := by decide +kernel
theorem dX8_tryPass_22 : decode cX8_tryPass 22 = .ok (.invokevirtual 94, 3) := by decide +kernel
theorem dX8_tryPass_25 : decode cX8_tryPass 25 = .ok (.ifCond .ne 5, 3) := by decide +kernel
theorem dX8_tryPass_28 : decode cX8_tryPass 28 = .ok (.iconst (-1), 1) := by decide +kernel
theorem dX8_tryPass_29 : decode cX8_tryPass 29 = .ok (.ireturn, 1) := by decide +kernel
theorem dX8_tryPass_30 : decode cX8_tryPass 30 = .ok (.aload_n 0, 1) := by decide +kernel
theorem dX8_tryPass_31 : decode cX8_tryPass 31 = .ok (.iload_n 2, 1) := by decide +kernel
theorem dX8_tryPass_32 : decode cX8_tryPass 32 = .ok (.iload_n 3, 1) := by decide +kernel
theorem dX8_tryPass_33 : decode cX8_tryPass 33 = .ok (.invokevirtual 245, 3) := by decide +kernel
theorem dX8_tryPass_36 : decode cX8_tryPass 36 = .ok (.ifCond .eq 11, 3) := by decide +kernel
theorem dX8_tryPass_39 : decode cX8_tryPass 39 = .ok (.iload 4, 2) := by decide +kernel
theorem dX8_tryPass_41 : decode cX8_tryPass 41 = .ok (.invokestatic 248, 3) := by decide +kernel
theorem dX8_tryPass_44 : decode cX8_tryPass 44 = .ok (.ifCond .ne 6, 3) := by decide +kernel
theorem dX8_tryPass_47 : decode cX8_tryPass 47 = .ok (.bipush (-2), 2) := by decide +kernel
theorem dX8_tryPass_49 : decode cX8_tryPass 49 = .ok (.ireturn, 1) := by decide +kernel
theorem dX8_tryPass_50 : decode cX8_tryPass 50 = .ok (.aload_n 0, 1) := by decide +kernel
theorem dX8_tryPass_51 : decode cX8_tryPass 51 = .ok (.iload_n 1, 1) := by decide +kernel
theorem dX8_tryPass_52 : decode cX8_tryPass 52 = .ok (.iload_n 2, 1) := by decide +kernel
theorem dX8_tryPass_53 : decode cX8_tryPass 53 = .ok (.iload_n 3, 1) := by decide +kernel
theorem dX8_tryPass_54 : decode cX8_tryPass 54 = .ok (.iload 4, 2) := by decide +kernel
theorem dX8_tryPass_56 : decode cX8_tryPass 56 = .ok (.invokevirtual 279, 3) := by decide +kernel
theorem dX8_tryPass_59 : decode cX8_tryPass 59 = .ok (.istore 6, 2) := by decide +kernel
theorem dX8_tryPass_61 : decode cX8_tryPass 61 = .ok (.iload 6, 2) := by decide +kernel
theorem dX8_tryPass_63 : decode cX8_tryPass 63 = .ok (.ifCond .eq 15, 3) := by decide +kernel
theorem dX8_tryPass_66 : decode cX8_tryPass 66 = .ok (.aload_n 0, 1) := by decide +kernel
theorem dX8_tryPass_67 : decode cX8_tryPass 67 = .ok (.getfield 10, 3) := by decide +kernel
theorem dX8_tryPass_70 : decode cX8_tryPass 70 = .ok (.iload 6, 2) := by decide +kernel
theorem dX8_tryPass_72 : decode cX8_tryPass 72 = .ok (.putfield 242, 3) := by decide +kernel
theorem dX8_tryPass_75 : decode cX8_tryPass 75 = .ok (.bipush (-5), 2) := by decide +kernel
theorem dX8_tryPass_77 : decode cX8_tryPass 77 = .ok (.ireturn, 1) := by decide +kernel
theorem dX8_tryPass_78 : decode cX8_tryPass 78 = .ok (.iload 5, 2) := by decide +kernel
theorem dX8_tryPass_80 : decode cX8_tryPass 80 = .ok (.ifCond .eq 14, 3) := by decide +kernel
theorem dX8_tryPass_83 : decode cX8_tryPass 83 = .ok (.aload_n 0, 1) := by decide +kernel
theorem dX8_tryPass_84 : decode cX8_tryPass 84 = .ok (.getfield 19, 3) := by decide +kernel
theorem dX8_tryPass_87 : decode cX8_tryPass 87 = .ok (.aload_n 0, 1) := by decide +kernel
theorem dX8_tryPass_88 : decode cX8_tryPass 88 = .ok (.getfield 10, 3) := by decide +kernel
theorem dX8_tryPass_91 : decode cX8_tryPass 91 = .ok (.invokevirtual 75, 3) := by decide +kernel
theorem dX8_tryPass_94 : decode cX8_tryPass 94 = .ok (.aload_n 0, 1) := by decide +kernel
theorem dX8_tryPass_95 : decode cX8_tryPass 95 = .ok (.iload_n 1, 1) := by decide +kernel
theorem dX8_tryPass_96 : decode cX8_tryPass 96 = .ok (.iload_n 2, 1) := by decide +kernel
theorem dX8_tryPass_97 : decode cX8_tryPass 97 = .ok (.iload_n 3, 1) := by decide +kernel
theorem dX8_tryPass_98 : decode cX8_tryPass 98 = .ok (.iload 4, 2) := by decide +kernel
theorem dX8_tryPass_100 : decode cX8_tryPass 100 = .ok (.invokevirtual 283, 3) := by decide +kernel
theorem dX8_tryPass_103 : decode cX8_tryPass 103 = .ok (.ireturn, 1) := by decide +kernel
theorem dX8_refusalOfPass_0 : decode cX8_refusalOfPass 0 = .ok (.aload_n 0, 1) := by decide +kernel
theorem dX8_refusalOfPass_1 : decode cX8_refusalOfPass 1 = .ok (.iload_n 1, 1) := by decide +kernel
theorem dX8_refusalOfPass_2 : decode cX8_refusalOfPass 2 = .ok (.iload_n 2, 1) := by decide +kernel
theorem dX8_refusalOfPass_3 : decode cX8_refusalOfPass 3 = .ok (.invokevirtual 251, 3) := by decide +kernel
theorem dX8_refusalOfPass_6 : decode cX8_refusalOfPass 6 = .ok (.ifCond .ne 5, 3) := by decide +kernel
theorem dX8_refusalOfPass_9 : decode cX8_refusalOfPass 9 = .ok (.iconst 1, 1) := by decide +kernel
theorem dX8_refusalOfPass_10 : decode cX8_refusalOfPass 10 = .ok (.ireturn, 1) := by decide +kernel
theorem dX8_refusalOfPass_11 : decode cX8_refusalOfPass 11 = .ok (.aload_n 0, 1) := by decide +kernel
theorem dX8_refusalOfPass_12 : decode cX8_refusalOfPass 12 = .ok (.getfield 10, 3) := by decide +kernel
theorem dX8_refusalOfPass_15 : decode cX8_refusalOfPass 15 = .ok (.getfield 65, 3) := by decide +kernel
theorem dX8_refusalOfPass_18 : decode cX8_refusalOfPass 18 = .ok (.iload_n 1, 1) := by decide +kernel
theorem dX8_refusalOfPass_19 : decode cX8_refusalOfPass 19 = .ok (.iconst 4, 1) := by decide +kernel
theorem dX8_refusalOfPass_20 : decode cX8_refusalOfPass 20 = .ok (.invokevirtual 98, 3) := by decide +kernel
theorem dX8_refusalOfPass_23 : decode cX8_refusalOfPass 23 = .ok (.aload_n 0, 1) := by decide +kernel
theorem dX8_refusalOfPass_24 : decode cX8_refusalOfPass 24 = .ok (.iload_n 1, 1) := by decide +kernel
theorem dX8_refusalOfPass_25 : decode cX8_refusalOfPass 25 = .ok (.iload_n 3, 1) := by decide +kernel
theorem dX8_refusalOfPass_26 : decode cX8_refusalOfPass 26 = .ok (.invokevirtual 286, 3) := by decide +kernel
theorem dX8_refusalOfPass_29 : decode cX8_refusalOfPass 29 = .ok (.if_icmp .ge 5, 3) := by decide +kernel
theorem dX8_refusalOfPass_32 : decode cX8_refusalOfPass 32 = .ok (.iconst 2, 1) := by decide +kernel
theorem dX8_refusalOfPass_33 : decode cX8_refusalOfPass 33 = .ok (.ireturn, 1) := by decide +kernel
theorem dX8_refusalOfPass_34 : decode cX8_refusalOfPass 34 = .ok (.aload_n 0, 1) := by decide +kernel
theorem dX8_refusalOfPass_35 : decode cX8_refusalOfPass 35 = .ok (.getfield 10, 3) := by decide +kernel
theorem dX8_refusalOfPass_38 : decode cX8_refusalOfPass 38 = .ok (.getfield 91, 3) := by decide +kernel
theorem dX8_refusalOfPass_41 : decode cX8_refusalOfPass 41 = .ok (.iload_n 2, 1) := by decide +kernel
theorem dX8_refusalOfPass_42 : decode cX8_refusalOfPass 42 = .ok (.iconst 4, 1) := by decide +kernel
theorem dX8_refusalOfPass_43 : decode cX8_refusalOfPass 43 = .ok (.invokevirtual 98, 3) := by decide +kernel
theorem dX8_refusalOfPass_46 : decode cX8_refusalOfPass 46 = .ok (.aload_n 0, 1) := by decide +kernel
theorem dX8_refusalOfPass_47 : decode cX8_refusalOfPass 47 = .ok (.iload_n 1, 1) := by decide +kernel
theorem dX8_refusalOfPass_48 : decode cX8_refusalOfPass 48 = .ok (.iload_n 3, 1) := by decide +kernel
theorem dX8_refusalOfPass_49 : decode cX8_refusalOfPass 49 = .ok (.invokevirtual 257, 3) := by decide +kernel
theorem dX8_refusalOfPass_52 : decode cX8_refusalOfPass 52 = .ok (.if_icmp .ge 5, 3) := by decide +kernel
theorem dX8_refusalOfPass_55 : decode cX8_refusalOfPass 55 = .ok (.iconst 3, 1) := by decide +kernel
theorem dX8_refusalOfPass_56 : decode cX8_refusalOfPass 56 = .ok (.ireturn, 1) := by decide +kernel
theorem dX8_refusalOfPass_57 : decode cX8_refusalOfPass 57 = .ok (.aload_n 0, 1) := by decide +kernel
theorem dX8_refusalOfPass_58 : decode cX8_refusalOfPass 58 = .ok (.iload_n 1, 1) := by decide +kernel
theorem dX8_refusalOfPass_59 : decode cX8_refusalOfPass 59 = .ok (.iload_n 2, 1) := by decide +kernel
theorem dX8_refusalOfPass_60 : decode cX8_refusalOfPass 60 = .ok (.iload_n 3, 1) := by decide +kernel
theorem dX8_refusalOfPass_61 : decode cX8_refusalOfPass 61 = .ok (.iload 4, 2) := by decide +kernel
theorem dX8_refusalOfPass_63 : decode cX8_refusalOfPass 63 = .ok (.iconst 1, 1) := by decide +kernel
theorem dX8_refusalOfPass_64 : decode cX8_refusalOfPass 64 = .ok (.invokevirtual 289, 3) := by decide +kernel
theorem dX8_refusalOfPass_67 : decode cX8_refusalOfPass 67 = .ok (.ifCond .ne 5, 3) := by decide +kernel
theorem dX8_refusalOfPass_70 : decode cX8_refusalOfPass 70 = .ok (.iconst 4, 1) := by decide +kernel
theorem dX8_refusalOfPass_71 : decode cX8_refusalOfPass 71 = .ok (.ireturn, 1) := by decide +kernel
theorem dX8_refusalOfPass_72 : decode cX8_refusalOfPass 72 = .ok (.aload_n 0, 1) := by decide +kernel
theorem dX8_refusalOfPass_73 : decode cX8_refusalOfPass 73 = .ok (.getfield 10, 3) := by decide +kernel
theorem dX8_refusalOfPass_76 : decode cX8_refusalOfPass 76 = .ok (.getfield 215, 3) := by decide +kernel
theorem dX8_refusalOfPass_79 : decode cX8_refusalOfPass 79 = .ok (.invokevirtual 69, 3) := by decide +kernel
theorem dX8_refusalOfPass_82 : decode cX8_refusalOfPass 82 = .ok (.ifCond .eq 7, 3) := by decide +kernel
theorem dX8_refusalOfPass_85 : decode cX8_refusalOfPass 85 = .ok (.iconst 5, 1) := by decide +kernel
theorem dX8_refusalOfPass_86 : decode cX8_refusalOfPass 86 = .ok (.goto 4, 3) := by decide +kernel
theorem dX8_refusalOfPass_89 : decode cX8_refusalOfPass 89 = .ok (.iconst 0, 1) := by decide +kernel
theorem dX8_refusalOfPass_90 : decode cX8_refusalOfPass 90 = .ok (.ireturn, 1) := by decide +kernel
theorem dX8_makePass_0 : decode cX8_makePass 0 = .ok (.aload_n 0, 1) := by decide +kernel
theorem dX8_makePass_1 : decode cX8_makePass 1 = .ok (.getfield 10, 3) := by decide +kernel
theorem dX8_makePass_4 : decode cX8_makePass 4 = .ok (.getfield 215, 3) := by decide +kernel
theorem dX8_makePass_7 : decode cX8_makePass 7 = .ok (.invokevirtual 79, 3) := by decide +kernel
theorem dX8_makePass_10 : decode cX8_makePass 10 = .ok (.istore 5, 2) := by decide +kernel
theorem dX8_makePass_12 : decode cX8_makePass 12 = .ok (.aload_n 0, 1) := by decide +kernel
theorem dX8_makePass_13 : decode cX8_makePass 13 = .ok (.iload_n 1, 1) := by decide +kernel
theorem dX8_makePass_14 : decode cX8_makePass 14 = .ok (.iload_n 2, 1) := by decide +kernel
theorem dX8_makePass_15 : decode cX8_makePass 15 = .ok (.iload_n 3, 1) := by decide +kernel
theorem dX8_makePass_16 : decode cX8_makePass 16 = .ok (.iload 4, 2) := by decide +kernel
theorem dX8_makePass_18 : decode cX8_makePass 18 = .ok (.iconst 1, 1) := by decide +kernel
theorem dX8_makePass_19 : decode cX8_makePass 19 = .ok (.invokevirtual 289, 3) := by decide +kernel
theorem dX8_makePass_22 : decode cX8_makePass 22 = .ok (.istore 6, 2) := by decide +kernel
theorem dX8_makePass_24 : decode cX8_makePass 24 = .ok (.aload_n 0, 1) := by decide +kernel
theorem dX8_makePass_25 : decode cX8_makePass 25 = .ok (.getfield 10, 3) := by decide +kernel
theorem dX8_makePass_28 : decode cX8_makePass 28 = .ok (.getfield 65, 3) := by decide +kernel
theorem dX8_makePass_31 : decode cX8_makePass 31 = .ok (.iload_n 1, 1) := by decide +kernel
theorem dX8_makePass_32 : decode cX8_makePass 32 = .ok (.iconst 2, 1) := by decide +kernel
theorem dX8_makePass_33 : decode cX8_makePass 33 = .ok (.invokevirtual 98, 3) := by decide +kernel
theorem dX8_makePass_36 : decode cX8_makePass 36 = .ok (.iload 4, 2) := by decide +kernel
theorem dX8_makePass_38 : decode cX8_makePass 38 = .ok (.invokestatic 292, 3) := by decide +kernel
theorem dX8_makePass_41 : decode cX8_makePass 41 = .ok (.istore 7, 2) := by decide +kernel
theorem dX8_makePass_43 : decode cX8_makePass 43 = .ok (.aload_n 0, 1) := by decide +kernel
theorem dX8_makePass_44 : decode cX8_makePass 44 = .ok (.getfield 10, 3) := by decide +kernel
theorem dX8_makePass_47 : decode cX8_makePass 47 = .ok (.getfield 215, 3) := by decide +kernel
theorem dX8_makePass_50 : decode cX8_makePass 50 = .ok (.iload 5, 2) := by decide +kernel
theorem dX8_makePass_52 : decode cX8_makePass 52 = .ok (.iconst 0, 1) := by decide +kernel
theorem dX8_makePass_53 : decode cX8_makePass 53 = .ok (.iload_n 1, 1) := by decide +kernel
theorem dX8_makePass_54 : decode cX8_makePass 54 = .ok (.invokevirtual 83, 3) := by decide +kernel
theorem dX8_makePass_57 : decode cX8_makePass 57 = .ok (.aload_n 0, 1) := by decide +kernel
theorem dX8_makePass_58 : decode cX8_makePass 58 = .ok (.getfield 10, 3) := by decide +kernel
theorem dX8_makePass_61 : decode cX8_makePass 61 = .ok (.getfield 215, 3) := by decide +kernel
theorem dX8_makePass_64 : decode cX8_makePass 64 = .ok (.iload 5, 2) := by decide +kernel
theorem dX8_makePass_66 : decode cX8_makePass 66 = .ok (.iconst 1, 1) := by decide +kernel
theorem dX8_makePass_67 : decode cX8_makePass 67 = .ok (.iload_n 2, 1) := by decide +kernel
theorem dX8_makePass_68 : decode cX8_makePass 68 = .ok (.invokevirtual 83, 3) := by decide +kernel
theorem dX8_makePass_71 : decode cX8_makePass 71 = .ok (.aload_n 0, 1) := by decide +kernel
theorem dX8_makePass_72 : decode cX8_makePass 72 = .ok (.getfield 10, 3) := by decide +kernel
theorem dX8_makePass_75 : decode cX8_makePass 75 = .ok (.getfield 215, 3) := by decide +kernel
theorem dX8_makePass_78 : decode cX8_makePass 78 = .ok (.iload 5, 2) := by decide +kernel
theorem dX8_makePass_80 : decode cX8_makePass 80 = .ok (.iconst 2, 1) := by decide +kernel
theorem dX8_makePass_81 : decode cX8_makePass 81 = .ok (.iload_n 3, 1) := by decide +kernel
theorem dX8_makePass_82 : decode cX8_makePass 82 = .ok (.invokevirtual 83, 3) := by decide +kernel
theorem dX8_makePass_85 : decode cX8_makePass 85 = .ok (.aload_n 0, 1) := by decide +kernel
theorem dX8_makePass_86 : decode cX8_makePass 86 = .ok (.getfield 10, 3) := by decide +kernel
theorem dX8_makePass_89 : decode cX8_makePass 89 = .ok (.getfield 215, 3) := by decide +kernel
theorem dX8_makePass_92 : decode cX8_makePass 92 = .ok (.iload 5, 2) := by decide +kernel
theorem dX8_makePass_94 : decode cX8_makePass 94 = .ok (.iconst 3, 1) := by decide +kernel
theorem dX8_makePass_95 : decode cX8_makePass 95 = .ok (.iload 4, 2) := by decide +kernel
theorem dX8_makePass_97 : decode cX8_makePass 97 = .ok (.invokevirtual 83, 3) := by decide +kernel
theorem dX8_makePass_100 : decode cX8_makePass 100 = .ok (.aload_n 0, 1) := by decide +kernel
theorem dX8_makePass_101 : decode cX8_makePass 101 = .ok (.getfield 10, 3) := by decide +kernel
theorem dX8_makePass_104 : decode cX8_makePass 104 = .ok (.getfield 215, 3) := by decide +kernel
theorem dX8_makePass_107 : decode cX8_makePass 107 = .ok (.iload 5, 2) := by decide +kernel
theorem dX8_makePass_109 : decode cX8_makePass 109 = .ok (.iconst 4, 1) := by decide +kernel
theorem dX8_makePass_110 : decode cX8_makePass 110 = .ok (.aload_n 0, 1) := by decide +kernel
theorem dX8_makePass_111 : decode cX8_makePass 111 = .ok (.getfield 10, 3) := by decide +kernel
theorem dX8_makePass_114 : decode cX8_makePass 114 = .ok (.getfield 151, 3) := by decide +kernel
theorem dX8_makePass_117 : decode cX8_makePass 117 = .ok (.invokevirtual 83, 3) := by decide +kernel
theorem dX8_makePass_120 : decode cX8_makePass 120 = .ok (.aload_n 0, 1) := by decide +kernel
theorem dX8_makePass_121 : decode cX8_makePass 121 = .ok (.getfield 10, 3) := by decide +kernel
theorem dX8_makePass_124 : decode cX8_makePass 124 = .ok (.getfield 215, 3) := by decide +kernel
theorem dX8_makePass_127 : decode cX8_makePass 127 = .ok (.iload 5, 2) := by decide +kernel
theorem dX8_makePass_129 : decode cX8_makePass 129 = .ok (.iconst 5, 1) := by decide +kernel
theorem dX8_makePass_130 : decode cX8_makePass 130 = .ok (.iload 6, 2) := by decide +kernel
theorem dX8_makePass_132 : decode cX8_makePass 132 = .ok (.invokevirtual 83, 3) := by decide +kernel
theorem dX8_makePass_135 : decode cX8_makePass 135 = .ok (.aload_n 0, 1) := by decide +kernel
theorem dX8_makePass_136 : decode cX8_makePass 136 = .ok (.getfield 10, 3) := by decide +kernel
theorem dX8_makePass_139 : decode cX8_makePass 139 = .ok (.getfield 215, 3) := by decide +kernel
theorem dX8_makePass_142 : decode cX8_makePass 142 = .ok (.iload 5, 2) := by decide +kernel
theorem dX8_makePass_144 : decode cX8_makePass 144 = .ok (.bipush 6, 2) := by decide +kernel
theorem dX8_makePass_146 : decode cX8_makePass 146 = .ok (.iload 6, 2) := by decide +kernel
theorem dX8_makePass_148 : decode cX8_makePass 148 = .ok (.iload 7, 2) := by decide +kernel
theorem dX8_makePass_150 : decode cX8_makePass 150 = .ok (.iconst (-1), 1) := by decide +kernel
theorem dX8_makePass_151 : decode cX8_makePass 151 = .ok (.ixor, 1) := by decide +kernel
theorem dX8_makePass_152 : decode cX8_makePass 152 = .ok (.iand, 1) := by decide +kernel
theorem dX8_makePass_153 : decode cX8_makePass 153 = .ok (.invokevirtual 83, 3) := by decide +kernel
theorem dX8_makePass_156 : decode cX8_makePass 156 = .ok (.iconst 0, 1) := by decide +kernel
theorem dX8_makePass_157 : decode cX8_makePass 157 = .ok (.istore 8, 2) := by decide +kernel
theorem dX8_makePass_159 : decode cX8_makePass 159 = .ok (.iload 8, 2) := by decide +kernel
theorem dX8_makePass_161 : decode cX8_makePass 161 = .ok (.iconst 4, 1) := by decide +kernel
theorem dX8_makePass_162 : decode cX8_makePass 162 = .ok (.if_icmp .ge 37, 3) := by decide +kernel
theorem dX8_makePass_165 : decode cX8_makePass 165 = .ok (.aload_n 0, 1) := by decide +kernel
theorem dX8_makePass_166 : decode cX8_makePass 166 = .ok (.getfield 10, 3) := by decide +kernel
theorem dX8_makePass_169 : decode cX8_makePass 169 = .ok (.getfield 215, 3) := by decide +kernel
theorem dX8_makePass_172 : decode cX8_makePass 172 = .ok (.iload 5, 2) := by decide +kernel
theorem dX8_makePass_174 : decode cX8_makePass 174 = .ok (.bipush 7, 2) := by decide +kernel
theorem dX8_makePass_176 : decode cX8_makePass 176 = .ok (.iload 8, 2) := by decide +kernel
theorem dX8_makePass_178 : decode cX8_makePass 178 = .ok (.iadd, 1) := by decide +kernel
theorem dX8_makePass_179 : decode cX8_makePass 179 = .ok (.aload_n 0, 1) := by decide +kernel
theorem dX8_makePass_180 : decode cX8_makePass 180 = .ok (.iload_n 1, 1) := by decide +kernel
theorem dX8_makePass_181 : decode cX8_makePass 181 = .ok (.iload_n 2, 1) := by decide +kernel
theorem dX8_makePass_182 : decode cX8_makePass 182 = .ok (.iload_n 3, 1) := by decide +kernel
theorem dX8_makePass_183 : decode cX8_makePass 183 = .ok (.iload 4, 2) := by decide +kernel
theorem dX8_makePass_185 : decode cX8_makePass 185 = .ok (.iload 8, 2) := by decide +kernel
theorem dX8_makePass_187 : decode cX8_makePass 187 = .ok (.invokevirtual 254, 3) := by decide +kernel
theorem dX8_makePass_190 : decode cX8_makePass 190 = .ok (.invokevirtual 83, 3) := by decide +kernel
theorem dX8_makePass_193 : decode cX8_makePass 193 = .ok (.iinc 8 1, 3) := by decide +kernel
theorem dX8_makePass_196 : decode cX8_makePass 196 = .ok (.goto (-37), 3) := by decide +kernel
theorem dX8_makePass_199 : decode cX8_makePass 199 = .ok (.aload_n 0, 1) := by decide +kernel
theorem dX8_makePass_200 : decode cX8_makePass 200 = .ok (.getfield 10, 3) := by decide +kernel
theorem dX8_makePass_203 : decode cX8_makePass 203 = .ok (.getfield 65, 3) := by decide +kernel
theorem dX8_makePass_206 : decode cX8_makePass 206 = .ok (.iload_n 1, 1) := by decide +kernel
theorem dX8_makePass_207 : decode cX8_makePass 207 = .ok (.iconst 5, 1) := by decide +kernel
theorem dX8_makePass_208 : decode cX8_makePass 208 = .ok (.iconst 1, 1) := by decide +kernel
theorem dX8_makePass_209 : decode cX8_makePass 209 = .ok (.invokevirtual 116, 3) := by decide +kernel
theorem dX8_makePass_212 : decode cX8_makePass 212 = .ok (.aload_n 0, 1) := by decide +kernel
theorem dX8_makePass_213 : decode cX8_makePass 213 = .ok (.getfield 10, 3) := by decide +kernel
theorem dX8_makePass_216 : decode cX8_makePass 216 = .ok (.getfield 65, 3) := by decide +kernel
theorem dX8_makePass_219 : decode cX8_makePass 219 = .ok (.iload_n 1, 1) := by decide +kernel
theorem dX8_makePass_220 : decode cX8_makePass 220 = .ok (.iconst 4, 1) := by decide +kernel
theorem dX8_makePass_221 : decode cX8_makePass 221 = .ok (.aload_n 0, 1) := by decide +kernel
theorem dX8_makePass_222 : decode cX8_makePass 222 = .ok (.iload_n 1, 1) := by decide +kernel
theorem dX8_makePass_223 : decode cX8_makePass 223 = .ok (.iload_n 3, 1) := by decide +kernel
theorem dX8_makePass_224 : decode cX8_makePass 224 = .ok (.invokevirtual 286, 3) := by decide +kernel
theorem dX8_makePass_227 : decode cX8_makePass 227 = .ok (.ineg, 1) := by decide +kernel
theorem dX8_makePass_228 : decode cX8_makePass 228 = .ok (.invokevirtual 116, 3) := by decide +kernel
theorem dX8_makePass_231 : decode cX8_makePass 231 = .ok (.aload_n 0, 1) := by decide +kernel
theorem dX8_makePass_232 : decode cX8_makePass 232 = .ok (.getfield 10, 3) := by decide +kernel
theorem dX8_makePass_235 : decode cX8_makePass 235 = .ok (.getfield 91, 3) := by decide +kernel
theorem dX8_makePass_238 : decode cX8_makePass 238 = .ok (.iload_n 2, 1) := by decide +kernel
theorem dX8_makePass_239 : decode cX8_makePass 239 = .ok (.iconst 5, 1) := by decide +kernel
theorem dX8_makePass_240 : decode cX8_makePass 240 = .ok (.iconst 1, 1) := by decide +kernel
theorem dX8_makePass_241 : decode cX8_makePass 241 = .ok (.invokevirtual 116, 3) := by decide +kernel
theorem dX8_makePass_244 : decode cX8_makePass 244 = .ok (.aload_n 0, 1) := by decide +kernel
theorem dX8_makePass_245 : decode cX8_makePass 245 = .ok (.getfield 10, 3) := by decide +kernel
theorem dX8_makePass_248 : decode cX8_makePass 248 = .ok (.getfield 91, 3) := by decide +kernel
theorem dX8_makePass_251 : decode cX8_makePass 251 = .ok (.iload_n 2, 1) := by decide +kernel
theorem dX8_makePass_252 : decode cX8_makePass 252 = .ok (.iconst 4, 1) := by decide +kernel
theorem dX8_makePass_253 : decode cX8_makePass 253 = .ok (.aload_n 0, 1) := by decide +kernel
theorem dX8_makePass_254 : decode cX8_makePass 254 = .ok (.iload_n 1, 1) := by decide +kernel
theorem dX8_makePass_255 : decode cX8_makePass 255 = .ok (.iload_n 3, 1) := by decide +kernel
theorem dX8_makePass_256 : decode cX8_makePass 256 = .ok (.invokevirtual 257, 3) := by decide +kernel
theorem dX8_makePass_259 : decode cX8_makePass 259 = .ok (.ineg, 1) := by decide +kernel
theorem dX8_makePass_260 : decode cX8_makePass 260 = .ok (.invokevirtual 116, 3) := by decide +kernel
theorem dX8_makePass_263 : decode cX8_makePass 263 = .ok (.aload_n 0, 1) := by decide +kernel
theorem dX8_makePass_264 : decode cX8_makePass 264 = .ok (.getfield 10, 3) := by decide +kernel
theorem dX8_makePass_267 : decode cX8_makePass 267 = .ok (.iconst 0, 1) := by decide +kernel
theorem dX8_makePass_268 : decode cX8_makePass 268 = .ok (.putfield 242, 3) := by decide +kernel
theorem dX8_makePass_271 : decode cX8_makePass 271 = .ok (.iload 5, 2) := by decide +kernel
theorem dX8_makePass_273 : decode cX8_makePass 273 = .ok (.ireturn, 1) := by decide +kernel
theorem dX8_tryAnswer_0 : decode cX8_tryAnswer 0 = .ok (.aload_n 0, 1) := by decide +kernel
theorem dX8_tryAnswer_1 : decode cX8_tryAnswer 1 = .ok (.getfield 10, 3) := by decide +kernel
theorem dX8_tryAnswer_4 : decode cX8_tryAnswer 4 = .ok (.getfield 148, 3) := by decide +kernel
theorem dX8_tryAnswer_7 : decode cX8_tryAnswer 7 = .ok (.iload_n 1, 1) := by decide +kernel
theorem dX8_tryAnswer_8 : decode cX8_tryAnswer 8 = .ok (.invokevirtual 94, 3) := by decide +kernel
theorem dX8_tryAnswer_11 : decode cX8_tryAnswer 11 = .ok (.ifCond .ne 5, 3) := by decide +kernel
theorem dX8_tryAnswer_14 : decode cX8_tryAnswer 14 = .ok (.iconst (-1), 1) := by decide +kernel
theorem dX8_tryAnswer_15 : decode cX8_tryAnswer 15 = .ok (.ireturn, 1) := by decide +kernel
theorem dX8_tryAnswer_16 : decode cX8_tryAnswer 16 = .ok (.aload_n 0, 1) := by decide +kernel
theorem dX8_tryAnswer_17 : decode cX8_tryAnswer 17 = .ok (.iload_n 1, 1) := by decide +kernel
theorem dX8_tryAnswer_18 : decode cX8_tryAnswer 18 = .ok (.invokevirtual 295, 3) := by decide +kernel
theorem dX8_tryAnswer_21 : decode cX8_tryAnswer 21 = .ok (.istore_n 3, 1) := by decide +kernel
theorem dX8_tryAnswer_22 : decode cX8_tryAnswer 22 = .ok (.iload_n 3, 1) := by decide +kernel
theorem dX8_tryAnswer_23 : decode cX8_tryAnswer 23 = .ok (.ifCond .eq 14, 3) := by decide +kernel
theorem dX8_tryAnswer_26 : decode cX8_tryAnswer 26 = .ok (.aload_n 0, 1) := by decide +kernel
theorem dX8_tryAnswer_27 : decode cX8_tryAnswer 27 = .ok (.getfield 10, 3) := by decide +kernel
theorem dX8_tryAnswer_30 : decode cX8_tryAnswer 30 = .ok (.iload_n 3, 1) := by decide +kernel
theorem dX8_tryAnswer_31 : decode cX8_tryAnswer 31 = .ok (.putfield 242, 3) := by decide +kernel
theorem dX8_tryAnswer_34 : decode cX8_tryAnswer 34 = .ok (.bipush (-5), 2) := by decide +kernel
theorem dX8_tryAnswer_36 : decode cX8_tryAnswer 36 = .ok (.ireturn, 1) := by decide +kernel
theorem dX8_tryAnswer_37 : decode cX8_tryAnswer 37 = .ok (.iload_n 2, 1) := by decide +kernel
theorem dX8_tryAnswer_38 : decode cX8_tryAnswer 38 = .ok (.ifCond .eq 14, 3) := by decide +kernel
theorem dX8_tryAnswer_41 : decode cX8_tryAnswer 41 = .ok (.aload_n 0, 1) := by decide +kernel
theorem dX8_tryAnswer_42 : decode cX8_tryAnswer 42 = .ok (.getfield 19, 3) := by decide +kernel
theorem dX8_tryAnswer_45 : decode cX8_tryAnswer 45 = .ok (.aload_n 0, 1) := by decide +kernel
theorem dX8_tryAnswer_46 : decode cX8_tryAnswer 46 = .ok (.getfield 10, 3) := by decide +kernel
theorem dX8_tryAnswer_49 : decode cX8_tryAnswer 49 = .ok (.invokevirtual 75, 3) := by decide +kernel
theorem dX8_tryAnswer_52 : decode cX8_tryAnswer 52 = .ok (.aload_n 0, 1) := by decide +kernel
theorem dX8_tryAnswer_53 : decode cX8_tryAnswer 53 = .ok (.iload_n 1, 1) := by decide +kernel
theorem dX8_tryAnswer_54 : decode cX8_tryAnswer 54 = .ok (.invokevirtual 298, 3) := by decide +kernel
theorem dX8_tryAnswer_57 : decode cX8_tryAnswer 57 = .ok (.ireturn, 1) := by decide +kernel
theorem dX8_refusalOfAnswer_0 : decode cX8_refusalOfAnswer 0 = .ok (.aload_n 0, 1) := by decide +kernel
theorem dX8_refusalOfAnswer_1 : decode cX8_refusalOfAnswer 1 = .ok (.iload_n 1, 1) := by decide +kernel
theorem dX8_refusalOfAnswer_2 : decode cX8_refusalOfAnswer 2 = .ok (.invokevirtual 160, 3) := by decide +kernel
theorem dX8_refusalOfAnswer_5 : decode cX8_refusalOfAnswer 5 = .ok (.ifCond .ne 6, 3) := by decide +kernel
theorem dX8_refusalOfAnswer_8 : decode cX8_refusalOfAnswer 8 = .ok (.bipush 6, 2) := by decide +kernel
theorem dX8_refusalOfAnswer_10 : decode cX8_refusalOfAnswer 10 = .ok (.ireturn, 1) := by decide +kernel
theorem dX8_refusalOfAnswer_11 : decode cX8_refusalOfAnswer 11 = .ok (.aload_n 0, 1) := by decide +kernel
theorem dX8_refusalOfAnswer_12 : decode cX8_refusalOfAnswer 12 = .ok (.getfield 10, 3) := by decide +kernel
theorem dX8_refusalOfAnswer_15 : decode cX8_refusalOfAnswer 15 = .ok (.getfield 148, 3) := by decide +kernel
theorem dX8_refusalOfAnswer_18 : decode cX8_refusalOfAnswer 18 = .ok (.iload_n 1, 1) := by decide +kernel
theorem dX8_refusalOfAnswer_19 : decode cX8_refusalOfAnswer 19 = .ok (.iconst 2, 1) := by decide +kernel
theorem dX8_refusalOfAnswer_20 : decode cX8_refusalOfAnswer 20 = .ok (.invokevirtual 98, 3) := by decide +kernel
theorem dX8_refusalOfAnswer_23 : decode cX8_refusalOfAnswer 23 = .ok (.istore_n 2, 1) := by decide +kernel
theorem dX8_refusalOfAnswer_24 : decode cX8_refusalOfAnswer 24 = .ok (.aload_n 0, 1) := by decide +kernel
theorem dX8_refusalOfAnswer_25 : decode cX8_refusalOfAnswer 25 = .ok (.iload_n 2, 1) := by decide +kernel
theorem dX8_refusalOfAnswer_26 : decode cX8_refusalOfAnswer 26 = .ok (.invokevirtual 224, 3) := by decide +kernel
theorem dX8_refusalOfAnswer_29 : decode cX8_refusalOfAnswer 29 = .ok (.istore_n 3, 1) := by decide +kernel
theorem dX8_refusalOfAnswer_30 : decode cX8_refusalOfAnswer 30 = .ok (.iload_n 3, 1) := by decide +kernel
theorem dX8_refusalOfAnswer_31 : decode cX8_refusalOfAnswer 31 = .ok (.ifCond .ge 6, 3) := by decide +kernel
theorem dX8_refusalOfAnswer_34 : decode cX8_refusalOfAnswer 34 = .ok (.bipush 7, 2) := by decide +kernel
theorem dX8_refusalOfAnswer_36 : decode cX8_refusalOfAnswer 36 = .ok (.ireturn, 1) := by decide +kernel
theorem dX8_refusalOfAnswer_37 : decode cX8_refusalOfAnswer 37 = .ok (.aload_n 0, 1) := by decide +kernel
theorem dX8_refusalOfAnswer_38 : decode cX8_refusalOfAnswer 38 = .ok (.iload_n 3, 1) := by decide +kernel
theorem dX8_refusalOfAnswer_39 : decode cX8_refusalOfAnswer 39 = .ok (.iload_n 2, 1) := by decide +kernel
theorem dX8_refusalOfAnswer_40 : decode cX8_refusalOfAnswer 40 = .ok (.invokevirtual 221, 3) := by decide +kernel
theorem dX8_refusalOfAnswer_43 : decode cX8_refusalOfAnswer 43 = .ok (.aload_n 0, 1) := by decide +kernel
theorem dX8_refusalOfAnswer_44 : decode cX8_refusalOfAnswer 44 = .ok (.getfield 10, 3) := by decide +kernel
theorem dX8_refusalOfAnswer_47 : decode cX8_refusalOfAnswer 47 = .ok (.getfield 148, 3) := by decide +kernel
theorem dX8_refusalOfAnswer_50 : decode cX8_refusalOfAnswer 50 = .ok (.iload_n 1, 1) := by decide +kernel
theorem dX8_refusalOfAnswer_51 : decode cX8_refusalOfAnswer 51 = .ok (.bipush 6, 2) := by decide +kernel
theorem dX8_refusalOfAnswer_53 : decode cX8_refusalOfAnswer 53 = .ok (.invokevirtual 98, 3) := by decide +kernel
theorem dX8_refusalOfAnswer_56 : decode cX8_refusalOfAnswer 56 = .ok (.if_icmp .ge 6, 3) := by decide +kernel
theorem dX8_refusalOfAnswer_59 : decode cX8_refusalOfAnswer 59 = .ok (.bipush 8, 2) := by decide +kernel
theorem dX8_refusalOfAnswer_61 : decode cX8_refusalOfAnswer 61 = .ok (.ireturn, 1) := by decide +kernel
theorem dX8_refusalOfAnswer_62 : decode cX8_refusalOfAnswer 62 = .ok (.aload_n 0, 1) := by decide +kernel
theorem dX8_refusalOfAnswer_63 : decode cX8_refusalOfAnswer 63 = .ok (.aload_n 0, 1) := by decide +kernel
theorem dX8_refusalOfAnswer_64 : decode cX8_refusalOfAnswer 64 = .ok (.getfield 10, 3) := by decide +kernel
theorem dX8_refusalOfAnswer_67 : decode cX8_refusalOfAnswer 67 = .ok (.getfield 148, 3) := by decide +kernel
theorem dX8_refusalOfAnswer_70 : decode cX8_refusalOfAnswer 70 = .ok (.iload_n 1, 1) := by decide +kernel
theorem dX8_refusalOfAnswer_71 : decode cX8_refusalOfAnswer 71 = .ok (.iconst 1, 1) := by decide +kernel
theorem dX8_refusalOfAnswer_72 : decode cX8_refusalOfAnswer 72 = .ok (.invokevirtual 98, 3) := by decide +kernel
theorem dX8_refusalOfAnswer_75 : decode cX8_refusalOfAnswer 75 = .ok (.iload_n 2, 1) := by decide +kernel
theorem dX8_refusalOfAnswer_76 : decode cX8_refusalOfAnswer 76 = .ok (.aload_n 0, 1) := by decide +kernel
theorem dX8_refusalOfAnswer_77 : decode cX8_refusalOfAnswer 77 = .ok (.getfield 10, 3) := by decide +kernel
theorem dX8_refusalOfAnswer_80 : decode cX8_refusalOfAnswer 80 = .ok (.getfield 148, 3) := by decide +kernel
theorem dX8_refusalOfAnswer_83 : decode cX8_refusalOfAnswer 83 = .ok (.iload_n 1, 1) := by decide +kernel
theorem dX8_refusalOfAnswer_84 : decode cX8_refusalOfAnswer 84 = .ok (.iconst 3, 1) := by decide +kernel
theorem dX8_refusalOfAnswer_85 : decode cX8_refusalOfAnswer 85 = .ok (.invokevirtual 98, 3) := by decide +kernel
theorem dX8_refusalOfAnswer_88 : decode cX8_refusalOfAnswer 88 = .ok (.aload_n 0, 1) := by decide +kernel
theorem dX8_refusalOfAnswer_89 : decode cX8_refusalOfAnswer 89 = .ok (.getfield 10, 3) := by decide +kernel
theorem dX8_refusalOfAnswer_92 : decode cX8_refusalOfAnswer 92 = .ok (.getfield 148, 3) := by decide +kernel
theorem dX8_refusalOfAnswer_95 : decode cX8_refusalOfAnswer 95 = .ok (.iload_n 1, 1) := by decide +kernel
theorem dX8_refusalOfAnswer_96 : decode cX8_refusalOfAnswer 96 = .ok (.iconst 4, 1) := by decide +kernel
theorem dX8_refusalOfAnswer_97 : decode cX8_refusalOfAnswer 97 = .ok (.invokevirtual 98, 3) := by decide +kernel
theorem dX8_refusalOfAnswer_100 : decode cX8_refusalOfAnswer 100 = .ok (.aload_n 0, 1) := by decide +kernel
theorem dX8_refusalOfAnswer_101 : decode cX8_refusalOfAnswer 101 = .ok (.getfield 10, 3) := by decide +kernel
theorem dX8_refusalOfAnswer_104 : decode cX8_refusalOfAnswer 104 = .ok (.getfield 148, 3) := by decide +kernel
theorem dX8_refusalOfAnswer_107 : decode cX8_refusalOfAnswer 107 = .ok (.iload_n 1, 1) := by decide +kernel
theorem dX8_refusalOfAnswer_108 : decode cX8_refusalOfAnswer 108 = .ok (.iconst 5, 1) := by decide +kernel
theorem dX8_refusalOfAnswer_109 : decode cX8_refusalOfAnswer 109 = .ok (.invokevirtual 98, 3) := by decide +kernel
theorem dX8_refusalOfAnswer_112 : decode cX8_refusalOfAnswer 112 = .ok (.invokevirtual 227, 3) := by decide +kernel
theorem dX8_refusalOfAnswer_115 : decode cX8_refusalOfAnswer 115 = .ok (.istore 4, 2) := by decide +kernel
theorem dX8_refusalOfAnswer_117 : decode cX8_refusalOfAnswer 117 = .ok (.iload 4, 2) := by decide +kernel
theorem dX8_refusalOfAnswer_119 : decode cX8_refusalOfAnswer 119 = .ok (.ifCond .eq 8, 3) := by decide +kernel
theorem dX8_refusalOfAnswer_122 : decode cX8_refusalOfAnswer 122 = .ok (.bipush 9, 2) := by decide +kernel
theorem dX8_refusalOfAnswer_124 : decode cX8_refusalOfAnswer 124 = .ok (.goto 4, 3) := by decide +kernel
theorem dX8_refusalOfAnswer_127 : decode cX8_refusalOfAnswer 127 = .ok (.iconst 0, 1) := by decide +kernel
theorem dX8_refusalOfAnswer_128 : decode cX8_refusalOfAnswer 128 = .ok (.ireturn, 1) := by decide +kernel
theorem dX8_giveAnswer_0 : decode cX8_giveAnswer 0 = .ok (.aload_n 0, 1) := by decide +kernel
theorem dX8_giveAnswer_1 : decode cX8_giveAnswer 1 = .ok (.getfield 10, 3) := by decide +kernel
theorem dX8_giveAnswer_4 : decode cX8_giveAnswer 4 = .ok (.getfield 148, 3) := by decide +kernel
theorem dX8_giveAnswer_7 : decode cX8_giveAnswer 7 = .ok (.iload_n 1, 1) := by decide +kernel
theorem dX8_giveAnswer_8 : decode cX8_giveAnswer 8 = .ok (.iconst 1, 1) := by decide +kernel
theorem dX8_giveAnswer_9 : decode cX8_giveAnswer 9 = .ok (.invokevirtual 98, 3) := by decide +kernel
theorem dX8_giveAnswer_12 : decode cX8_giveAnswer 12 = .ok (.istore_n 2, 1) := by decide +kernel
theorem dX8_giveAnswer_13 : decode cX8_giveAnswer 13 = .ok (.aload_n 0, 1) := by decide +kernel
theorem dX8_giveAnswer_14 : decode cX8_giveAnswer 14 = .ok (.getfield 10, 3) := by decide +kernel
theorem dX8_giveAnswer_17 : decode cX8_giveAnswer 17 = .ok (.getfield 148, 3) := by decide +kernel
theorem dX8_giveAnswer_20 : decode cX8_giveAnswer 20 = .ok (.iload_n 1, 1) := by decide +kernel
theorem dX8_giveAnswer_21 : decode cX8_giveAnswer 21 = .ok (.iconst 2, 1) := by decide +kernel
theorem dX8_giveAnswer_22 : decode cX8_giveAnswer 22 = .ok (.invokevirtual 98, 3) := by decide +kernel
theorem dX8_giveAnswer_25 : decode cX8_giveAnswer 25 = .ok (.istore_n 3, 1) := by decide +kernel
theorem dX8_giveAnswer_26 : decode cX8_giveAnswer 26 = .ok (.aload_n 0, 1) := by decide +kernel
theorem dX8_giveAnswer_27 : decode cX8_giveAnswer 27 = .ok (.getfield 10, 3) := by decide +kernel
theorem dX8_giveAnswer_30 : decode cX8_giveAnswer 30 = .ok (.getfield 148, 3) := by decide +kernel
theorem dX8_giveAnswer_33 : decode cX8_giveAnswer 33 = .ok (.iload_n 1, 1) := by decide +kernel
theorem dX8_giveAnswer_34 : decode cX8_giveAnswer 34 = .ok (.iconst 3, 1) := by decide +kernel
theorem dX8_giveAnswer_35 : decode cX8_giveAnswer 35 = .ok (.invokevirtual 98, 3) := by decide +kernel
theorem dX8_giveAnswer_38 : decode cX8_giveAnswer 38 = .ok (.istore 4, 2) := by decide +kernel
theorem dX8_giveAnswer_40 : decode cX8_giveAnswer 40 = .ok (.aload_n 0, 1) := by decide +kernel
theorem dX8_giveAnswer_41 : decode cX8_giveAnswer 41 = .ok (.getfield 10, 3) := by decide +kernel
theorem dX8_giveAnswer_44 : decode cX8_giveAnswer 44 = .ok (.getfield 148, 3) := by decide +kernel
theorem dX8_giveAnswer_47 : decode cX8_giveAnswer 47 = .ok (.iload_n 1, 1) := by decide +kernel
theorem dX8_giveAnswer_48 : decode cX8_giveAnswer 48 = .ok (.iconst 4, 1) := by decide +kernel
theorem dX8_giveAnswer_49 : decode cX8_giveAnswer 49 = .ok (.invokevirtual 98, 3) := by decide +kernel
theorem dX8_giveAnswer_52 : decode cX8_giveAnswer 52 = .ok (.istore 5, 2) := by decide +kernel
theorem dX8_giveAnswer_54 : decode cX8_giveAnswer 54 = .ok (.aload_n 0, 1) := by decide +kernel
theorem dX8_giveAnswer_55 : decode cX8_giveAnswer 55 = .ok (.getfield 10, 3) := by decide +kernel
theorem dX8_giveAnswer_58 : decode cX8_giveAnswer 58 = .ok (.getfield 148, 3) := by decide +kernel
theorem dX8_giveAnswer_61 : decode cX8_giveAnswer 61 = .ok (.iload_n 1, 1) := by decide +kernel
theorem dX8_giveAnswer_62 : decode cX8_giveAnswer 62 = .ok (.iconst 5, 1) := by decide +kernel
theorem dX8_giveAnswer_63 : decode cX8_giveAnswer 63 = .ok (.invokevirtual 98, 3) := by decide +kernel
theorem dX8_giveAnswer_66 : decode cX8_giveAnswer 66 = .ok (.istore 6, 2) := by decide +kernel
theorem dX8_giveAnswer_68 : decode cX8_giveAnswer 68 = .ok (.aload_n 0, 1) := by decide +kernel
theorem dX8_giveAnswer_69 : decode cX8_giveAnswer 69 = .ok (.iload_n 3, 1) := by decide +kernel
theorem dX8_giveAnswer_70 : decode cX8_giveAnswer 70 = .ok (.invokevirtual 224, 3) := by decide +kernel
theorem dX8_giveAnswer_73 : decode cX8_giveAnswer 73 = .ok (.istore 7, 2) := by decide +kernel
theorem dX8_giveAnswer_75 : decode cX8_giveAnswer 75 = .ok (.iconst 0, 1) := by decide +kernel
theorem dX8_giveAnswer_76 : decode cX8_giveAnswer 76 = .ok (.istore 8, 2) := by decide +kernel
theorem dX8_giveAnswer_78 : decode cX8_giveAnswer 78 = .ok (.iconst 0, 1) := by decide +kernel
theorem dX8_giveAnswer_79 : decode cX8_giveAnswer 79 = .ok (.istore 9, 2) := by decide +kernel
theorem dX8_giveAnswer_81 : decode cX8_giveAnswer 81 = .ok (.iload 9, 2) := by decide +kernel
theorem dX8_giveAnswer_83 : decode cX8_giveAnswer 83 = .ok (.aload_n 0, 1) := by decide +kernel
theorem dX8_giveAnswer_84 : decode cX8_giveAnswer 84 = .ok (.getfield 10, 3) := by decide +kernel
theorem dX8_giveAnswer_87 : decode cX8_giveAnswer 87 = .ok (.getfield 109, 3) := by decide +kernel
theorem dX8_giveAnswer_90 : decode cX8_giveAnswer 90 = .ok (.iload_n 3, 1) := by decide +kernel
theorem dX8_giveAnswer_91 : decode cX8_giveAnswer 91 = .ok (.iconst 5, 1) := by decide +kernel
theorem dX8_giveAnswer_92 : decode cX8_giveAnswer 92 = .ok (.invokevirtual 98, 3) := by decide +kernel
theorem dX8_giveAnswer_95 : decode cX8_giveAnswer 95 = .ok (.if_icmp .ge 65, 3) := by decide +kernel
theorem dX8_giveAnswer_98 : decode cX8_giveAnswer 98 = .ok (.iload_n 3, 1) := by decide +kernel
theorem dX8_giveAnswer_99 : decode cX8_giveAnswer 99 = .ok (.iload 9, 2) := by decide +kernel
theorem dX8_giveAnswer_101 : decode cX8_giveAnswer 101 = .ok (.invokestatic 125, 3) := by decide +kernel
theorem dX8_giveAnswer_104 : decode cX8_giveAnswer 104 = .ok (.istore 10, 2) := by decide +kernel
theorem dX8_giveAnswer_106 : decode cX8_giveAnswer 106 = .ok (.aload_n 0, 1) := by decide +kernel
theorem dX8_giveAnswer_107 : decode cX8_giveAnswer 107 = .ok (.iload 10, 2) := by decide +kernel
theorem dX8_giveAnswer_109 : decode cX8_giveAnswer 109 = .ok (.iload_n 2, 1) := by decide +kernel
theorem dX8_giveAnswer_110 : decode cX8_giveAnswer 110 = .ok (.iload 4, 2) := by decide +kernel
theorem dX8_giveAnswer_112 : decode cX8_giveAnswer 112 = .ok (.iload 5, 2) := by decide +kernel
theorem dX8_giveAnswer_114 : decode cX8_giveAnswer 114 = .ok (.iload 6, 2) := by decide +kernel
theorem dX8_giveAnswer_116 : decode cX8_giveAnswer 116 = .ok (.invokevirtual 301, 3) := by decide +kernel
theorem dX8_giveAnswer_119 : decode cX8_giveAnswer 119 = .ok (.istore 11, 2) := by decide +kernel
theorem dX8_giveAnswer_121 : decode cX8_giveAnswer 121 = .ok (.aload_n 0, 1) := by decide +kernel
theorem dX8_giveAnswer_122 : decode cX8_giveAnswer 122 = .ok (.getfield 10, 3) := by decide +kernel
theorem dX8_giveAnswer_125 : decode cX8_giveAnswer 125 = .ok (.getfield 233, 3) := by decide +kernel
theorem dX8_giveAnswer_128 : decode cX8_giveAnswer 128 = .ok (.aload_n 0, 1) := by decide +kernel
theorem dX8_giveAnswer_129 : decode cX8_giveAnswer 129 = .ok (.getfield 10, 3) := by decide +kernel
theorem dX8_giveAnswer_132 : decode cX8_giveAnswer 132 = .ok (.getfield 128, 3) := by decide +kernel
theorem dX8_giveAnswer_135 : decode cX8_giveAnswer 135 = .ok (.iload 10, 2) := by decide +kernel
theorem dX8_giveAnswer_137 : decode cX8_giveAnswer 137 = .ok (.iconst 2, 1) := by decide +kernel
theorem dX8_giveAnswer_138 : decode cX8_giveAnswer 138 = .ok (.invokevirtual 98, 3) := by decide +kernel
theorem dX8_giveAnswer_141 : decode cX8_giveAnswer 141 = .ok (.iconst 0, 1) := by decide +kernel
theorem dX8_giveAnswer_142 : decode cX8_giveAnswer 142 = .ok (.iload 11, 2) := by decide +kernel
theorem dX8_giveAnswer_144 : decode cX8_giveAnswer 144 = .ok (.invokevirtual 116, 3) := by decide +kernel
theorem dX8_giveAnswer_147 : decode cX8_giveAnswer 147 = .ok (.iload 8, 2) := by decide +kernel
theorem dX8_giveAnswer_149 : decode cX8_giveAnswer 149 = .ok (.iload 11, 2) := by decide +kernel
theorem dX8_giveAnswer_151 : decode cX8_giveAnswer 151 = .ok (.iadd, 1) := by decide +kernel
theorem dX8_giveAnswer_152 : decode cX8_giveAnswer 152 = .ok (.istore 8, 2) := by decide +kernel
theorem dX8_giveAnswer_154 : decode cX8_giveAnswer 154 = .ok (.iinc 9 1, 3) := by decide +kernel
theorem dX8_giveAnswer_157 : decode cX8_giveAnswer 157 = .ok (.goto (-76), 3) := by decide +kernel
theorem dX8_giveAnswer_160 : decode cX8_giveAnswer 160 = .ok (.aload_n 0, 1) := by decide +kernel
theorem dX8_giveAnswer_161 : decode cX8_giveAnswer 161 = .ok (.getfield 10, 3) := by decide +kernel
theorem dX8_giveAnswer_164 : decode cX8_giveAnswer 164 = .ok (.getfield 233, 3) := by decide +kernel
theorem dX8_giveAnswer_167 : decode cX8_giveAnswer 167 = .ok (.iload_n 2, 1) := by decide +kernel
theorem dX8_giveAnswer_168 : decode cX8_giveAnswer 168 = .ok (.iconst 1, 1) := by decide +kernel
theorem dX8_giveAnswer_169 : decode cX8_giveAnswer 169 = .ok (.iload 8, 2) := by decide +kernel
theorem dX8_giveAnswer_171 : decode cX8_giveAnswer 171 = .ok (.invokevirtual 116, 3) := by decide +kernel
theorem dX8_giveAnswer_174 : decode cX8_giveAnswer 174 = .ok (.aload_n 0, 1) := by decide +kernel
theorem dX8_giveAnswer_175 : decode cX8_giveAnswer 175 = .ok (.getfield 10, 3) := by decide +kernel
theorem dX8_giveAnswer_178 : decode cX8_giveAnswer 178 = .ok (.getfield 148, 3) := by decide +kernel
theorem dX8_giveAnswer_181 : decode cX8_giveAnswer 181 = .ok (.iload_n 1, 1) := by decide +kernel
theorem dX8_giveAnswer_182 : decode cX8_giveAnswer 182 = .ok (.iconst 0, 1) := by decide +kernel
theorem dX8_giveAnswer_183 : decode cX8_giveAnswer 183 = .ok (.iconst 1, 1) := by decide +kernel
theorem dX8_giveAnswer_184 : decode cX8_giveAnswer 184 = .ok (.invokevirtual 83, 3) := by decide +kernel
theorem dX8_giveAnswer_187 : decode cX8_giveAnswer 187 = .ok (.aload_n 0, 1) := by decide +kernel
theorem dX8_giveAnswer_188 : decode cX8_giveAnswer 188 = .ok (.getfield 10, 3) := by decide +kernel
theorem dX8_giveAnswer_191 : decode cX8_giveAnswer 191 = .ok (.getfield 148, 3) := by decide +kernel
theorem dX8_giveAnswer_194 : decode cX8_giveAnswer 194 = .ok (.iload_n 1, 1) := by decide +kernel
theorem dX8_giveAnswer_195 : decode cX8_giveAnswer 195 = .ok (.bipush 8, 2) := by decide +kernel
theorem dX8_giveAnswer_197 : decode cX8_giveAnswer 197 = .ok (.iload 7, 2) := by decide +kernel
theorem dX8_giveAnswer_199 : decode cX8_giveAnswer 199 = .ok (.invokevirtual 83, 3) := by decide +kernel
theorem dX8_giveAnswer_202 : decode cX8_giveAnswer 202 = .ok (.aload_n 0, 1) := by decide +kernel
theorem dX8_giveAnswer_203 : decode cX8_giveAnswer 203 = .ok (.getfield 10, 3) := by decide +kernel
theorem dX8_giveAnswer_206 : decode cX8_giveAnswer 206 = .ok (.getfield 148, 3) := by decide +kernel
theorem dX8_giveAnswer_209 : decode cX8_giveAnswer 209 = .ok (.iload_n 1, 1) := by decide +kernel
theorem dX8_giveAnswer_210 : decode cX8_giveAnswer 210 = .ok (.bipush 9, 2) := by decide +kernel
theorem dX8_giveAnswer_212 : decode cX8_giveAnswer 212 = .ok (.iload 8, 2) := by decide +kernel
theorem dX8_giveAnswer_214 : decode cX8_giveAnswer 214 = .ok (.invokevirtual 83, 3) := by decide +kernel
theorem dX8_giveAnswer_217 : decode cX8_giveAnswer 217 = .ok (.aload_n 0, 1) := by decide +kernel
theorem dX8_giveAnswer_218 : decode cX8_giveAnswer 218 = .ok (.getfield 10, 3) := by decide +kernel
theorem dX8_giveAnswer_221 : decode cX8_giveAnswer 221 = .ok (.iconst 0, 1) := by decide +kernel
theorem dX8_giveAnswer_222 : decode cX8_giveAnswer 222 = .ok (.putfield 242, 3) := by decide +kernel
theorem dX8_giveAnswer_225 : decode cX8_giveAnswer 225 = .ok (.iload 7, 2) := by decide +kernel
theorem dX8_giveAnswer_227 : decode cX8_giveAnswer 227 = .ok (.ireturn, 1) := by decide +kernel
theorem dX8_tryDays_0 : decode cX8_tryDays 0 = .ok (.iload_n 1, 1) := by decide +kernel
theorem dX8_tryDays_1 : decode cX8_tryDays 1 = .ok (.iconst 1, 1) := by decide +kernel
theorem dX8_tryDays_2 : decode cX8_tryDays 2 = .ok (.bipush 99, 2) := by decide +kernel
theorem dX8_tryDays_4 : decode cX8_tryDays 4 = .ok (.invokestatic 61, 3) := by decide +kernel
theorem dX8_tryDays_7 : decode cX8_tryDays 7 = .ok (.ifCond .ne 6, 3) := by decide +kernel
theorem dX8_tryDays_10 : decode cX8_tryDays 10 = .ok (.bipush (-2), 2) := by decide +kernel
theorem dX8_tryDays_12 : decode cX8_tryDays 12 = .ok (.ireturn, 1) := by decide +kernel
theorem dX8_tryDays_13 : decode cX8_tryDays 13 = .ok (.aload_n 0, 1) := by decide +kernel
theorem dX8_tryDays_14 : decode cX8_tryDays 14 = .ok (.getfield 10, 3) := by decide +kernel
theorem dX8_tryDays_17 : decode cX8_tryDays 17 = .ok (.getfield 151, 3) := by decide +kernel
theorem dX8_tryDays_20 : decode cX8_tryDays 20 = .ok (.iload_n 1, 1) := by decide +kernel
theorem dX8_tryDays_21 : decode cX8_tryDays 21 = .ok (.iadd, 1) := by decide +kernel
theorem dX8_tryDays_22 : decode cX8_tryDays 22 = .ok (.sipush 9999, 3) := by decide +kernel
theorem dX8_tryDays_25 : decode cX8_tryDays 25 = .ok (.if_icmp .le 6, 3) := by decide +kernel
theorem dX8_tryDays_28 : decode cX8_tryDays 28 = .ok (.bipush (-3), 2) := by decide +kernel
theorem dX8_tryDays_30 : decode cX8_tryDays 30 = .ok (.ireturn, 1) := by decide +kernel
theorem dX8_tryDays_31 : decode cX8_tryDays 31 = .ok (.iload_n 2, 1) := by decide +kernel
theorem dX8_tryDays_32 : decode cX8_tryDays 32 = .ok (.ifCond .eq 14, 3) := by decide +kernel
theorem dX8_tryDays_35 : decode cX8_tryDays 35 = .ok (.aload_n 0, 1) := by decide +kernel
theorem dX8_tryDays_36 : decode cX8_tryDays 36 = .ok (.getfield 19, 3) := by decide +kernel
theorem dX8_tryDays_39 : decode cX8_tryDays 39 = .ok (.aload_n 0, 1) := by decide +kernel
theorem dX8_tryDays_40 : decode cX8_tryDays 40 = .ok (.getfield 10, 3) := by decide +kernel
theorem dX8_tryDays_43 : decode cX8_tryDays 43 = .ok (.invokevirtual 75, 3) := by decide +kernel
theorem dX8_tryDays_46 : decode cX8_tryDays 46 = .ok (.aload_n 0, 1) := by decide +kernel
theorem dX8_tryDays_47 : decode cX8_tryDays 47 = .ok (.getfield 10, 3) := by decide +kernel
theorem dX8_tryDays_50 : decode cX8_tryDays 50 = .ok (.dup, 1) := by decide +kernel
theorem dX8_tryDays_51 : decode cX8_tryDays 51 = .ok (.getfield 151, 3) := by decide +kernel
theorem dX8_tryDays_54 : decode cX8_tryDays 54 = .ok (.iload_n 1, 1) := by decide +kernel
theorem dX8_tryDays_55 : decode cX8_tryDays 55 = .ok (.iadd, 1) := by decide +kernel
theorem dX8_tryDays_56 : decode cX8_tryDays 56 = .ok (.putfield 151, 3) := by decide +kernel
theorem dX8_tryDays_59 : decode cX8_tryDays 59 = .ok (.iconst 0, 1) := by decide +kernel
theorem dX8_tryDays_60 : decode cX8_tryDays 60 = .ok (.istore_n 3, 1) := by decide +kernel
theorem dX8_tryDays_61 : decode cX8_tryDays 61 = .ok (.iload_n 3, 1) := by decide +kernel
theorem dX8_tryDays_62 : decode cX8_tryDays 62 = .ok (.aload_n 0, 1) := by decide +kernel
theorem dX8_tryDays_63 : decode cX8_tryDays 63 = .ok (.getfield 10, 3) := by decide +kernel
theorem dX8_tryDays_66 : decode cX8_tryDays 66 = .ok (.getfield 91, 3) := by decide +kernel
theorem dX8_tryDays_69 : decode cX8_tryDays 69 = .ok (.getfield 236, 3) := by decide +kernel
theorem dX8_tryDays_72 : decode cX8_tryDays 72 = .ok (.if_icmp .ge 24, 3) := by decide +kernel
theorem dX8_tryDays_75 : decode cX8_tryDays 75 = .ok (.aload_n 0, 1) := by decide +kernel
theorem dX8_tryDays_76 : decode cX8_tryDays 76 = .ok (.getfield 10, 3) := by decide +kernel
theorem dX8_tryDays_79 : decode cX8_tryDays 79 = .ok (.getfield 91, 3) := by decide +kernel
theorem dX8_tryDays_82 : decode cX8_tryDays 82 = .ok (.iload_n 3, 1) := by decide +kernel
theorem dX8_tryDays_83 : decode cX8_tryDays 83 = .ok (.iconst 4, 1) := by decide +kernel
theorem dX8_tryDays_84 : decode cX8_tryDays 84 = .ok (.sipush 28800, 3) := by decide +kernel
theorem dX8_tryDays_87 : decode cX8_tryDays 87 = .ok (.invokevirtual 83, 3) := by decide +kernel
theorem dX8_tryDays_90 : decode cX8_tryDays 90 = .ok (.iinc 3 1, 3) := by decide +kernel
theorem dX8_tryDays_93 : decode cX8_tryDays 93 = .ok (.goto (-32), 3) := by decide +kernel
theorem dX8_tryDays_96 : decode cX8_tryDays 96 = .ok (.iconst 0, 1) := by decide +kernel
theorem dX8_tryDays_97 : decode cX8_tryDays 97 = .ok (.istore_n 3, 1) := by decide +kernel
theorem dX8_tryDays_98 : decode cX8_tryDays 98 = .ok (.iconst 0, 1) := by decide +kernel
theorem dX8_tryDays_99 : decode cX8_tryDays 99 = .ok (.istore 4, 2) := by decide +kernel
theorem dX8_tryDays_101 : decode cX8_tryDays 101 = .ok (.iload 4, 2) := by decide +kernel
theorem dX8_tryDays_103 : decode cX8_tryDays 103 = .ok (.aload_n 0, 1) := by decide +kernel
theorem dX8_tryDays_104 : decode cX8_tryDays 104 = .ok (.getfield 10, 3) := by decide +kernel
theorem dX8_tryDays_107 : decode cX8_tryDays 107 = .ok (.getfield 148, 3) := by decide +kernel
theorem dX8_tryDays_110 : decode cX8_tryDays 110 = .ok (.getfield 236, 3) := by decide +kernel
theorem dX8_tryDays_113 : decode cX8_tryDays 113 = .ok (.if_icmp .ge 59, 3) := by decide +kernel
theorem dX8_tryDays_116 : decode cX8_tryDays 116 = .ok (.aload_n 0, 1) := by decide +kernel
theorem dX8_tryDays_117 : decode cX8_tryDays 117 = .ok (.iload 4, 2) := by decide +kernel
theorem dX8_tryDays_119 : decode cX8_tryDays 119 = .ok (.invokevirtual 160, 3) := by decide +kernel
theorem dX8_tryDays_122 : decode cX8_tryDays 122 = .ok (.ifCond .eq 44, 3) := by decide +kernel
theorem dX8_tryDays_125 : decode cX8_tryDays 125 = .ok (.aload_n 0, 1) := by decide +kernel
theorem dX8_tryDays_126 : decode cX8_tryDays 126 = .ok (.getfield 10, 3) := by decide +kernel
theorem dX8_tryDays_129 : decode cX8_tryDays 129 = .ok (.getfield 148, 3) := by decide +kernel
theorem dX8_tryDays_132 : decode cX8_tryDays 132 = .ok (.iload 4, 2) := by decide +kernel
theorem dX8_tryDays_134 : decode cX8_tryDays 134 = .ok (.bipush 7, 2) := by decide +kernel
theorem dX8_tryDays_136 : decode cX8_tryDays 136 = .ok (.invokevirtual 98, 3) := by decide +kernel
theorem dX8_tryDays_139 : decode cX8_tryDays 139 = .ok (.aload_n 0, 1) := by decide +kernel
theorem dX8_tryDays_140 : decode cX8_tryDays 140 = .ok (.getfield 10, 3) := by decide +kernel
theorem dX8_tryDays_143 : decode cX8_tryDays 143 = .ok (.getfield 151, 3) := by decide +kernel
theorem dX8_tryDays_146 : decode cX8_tryDays 146 = .ok (.if_icmp .ge 20, 3) := by decide +kernel
theorem dX8_tryDays_149 : decode cX8_tryDays 149 = .ok (.aload_n 0, 1) := by decide +kernel
theorem dX8_tryDays_150 : decode cX8_tryDays 150 = .ok (.getfield 10, 3) := by decide +kernel
theorem dX8_tryDays_153 : decode cX8_tryDays 153 = .ok (.getfield 148, 3) := by decide +kernel
theorem dX8_tryDays_156 : decode cX8_tryDays 156 = .ok (.iload 4, 2) := by decide +kernel
theorem dX8_tryDays_158 : decode cX8_tryDays 158 = .ok (.iconst 0, 1) := by decide +kernel
theorem dX8_tryDays_159 : decode cX8_tryDays 159 = .ok (.iconst 2, 1) := by decide +kernel
theorem dX8_tryDays_160 : decode cX8_tryDays 160 = .ok (.invokevirtual 83, 3) := by decide +kernel
theorem dX8_tryDays_163 : decode cX8_tryDays 163 = .ok (.iinc 3 1, 3) := by decide +kernel
theorem dX8_tryDays_166 : decode cX8_tryDays 166 = .ok (.iinc 4 1, 3) := by decide +kernel
theorem dX8_tryDays_169 : decode cX8_tryDays 169 = .ok (.goto (-68), 3) := by decide +kernel
theorem dX8_tryDays_172 : decode cX8_tryDays 172 = .ok (.iload_n 3, 1) := by decide +kernel
theorem dX8_tryDays_173 : decode cX8_tryDays 173 = .ok (.ireturn, 1) := by decide +kernel
theorem dX8_captureNow_0 : decode cX8_captureNow 0 = .ok (.aload_n 0, 1) := by decide +kernel
theorem dX8_captureNow_1 : decode cX8_captureNow 1 = .ok (.getfield 10, 3) := by decide +kernel
theorem dX8_captureNow_4 : decode cX8_captureNow 4 = .ok (.getfield 65, 3) := by decide +kernel
theorem dX8_captureNow_7 : decode cX8_captureNow 7 = .ok (.iload_n 1, 1) := by decide +kernel
theorem dX8_captureNow_8 : decode cX8_captureNow 8 = .ok (.iconst 1, 1) := by decide +kernel
theorem dX8_captureNow_9 : decode cX8_captureNow 9 = .ok (.invokevirtual 98, 3) := by decide +kernel
theorem dX8_captureNow_12 : decode cX8_captureNow 12 = .ok (.istore 6, 2) := by decide +kernel
theorem dX8_captureNow_14 : decode cX8_captureNow 14 = .ok (.aload_n 0, 1) := by decide +kernel
theorem dX8_captureNow_15 : decode cX8_captureNow 15 = .ok (.getfield 10, 3) := by decide +kernel
theorem dX8_captureNow_18 : decode cX8_captureNow 18 = .ok (.getfield 65, 3) := by decide +kernel
theorem dX8_captureNow_21 : decode cX8_captureNow 21 = .ok (.iload_n 1, 1) := by decide +kernel
theorem dX8_captureNow_22 : decode cX8_captureNow 22 = .ok (.iconst 2, 1) := by decide +kernel
theorem dX8_captureNow_23 : decode cX8_captureNow 23 = .ok (.invokevirtual 98, 3) := by decide +kernel
theorem dX8_captureNow_26 : decode cX8_captureNow 26 = .ok (.iload 5, 2) := by decide +kernel
theorem dX8_captureNow_28 : decode cX8_captureNow 28 = .ok (.invokestatic 307, 3) := by decide +kernel
theorem dX8_captureNow_31 : decode cX8_captureNow 31 = .ok (.istore 7, 2) := by decide +kernel
theorem dX8_captureNow_33 : decode cX8_captureNow 33 = .ok (.aload_n 0, 1) := by decide +kernel
theorem dX8_captureNow_34 : decode cX8_captureNow 34 = .ok (.getfield 10, 3) := by decide +kernel
theorem dX8_captureNow_37 : decode cX8_captureNow 37 = .ok (.getfield 91, 3) := by decide +kernel
theorem dX8_captureNow_40 : decode cX8_captureNow 40 = .ok (.iload_n 2, 1) := by decide +kernel
theorem dX8_captureNow_41 : decode cX8_captureNow 41 = .ok (.iconst 2, 1) := by decide +kernel
theorem dX8_captureNow_42 : decode cX8_captureNow 42 = .ok (.invokevirtual 98, 3) := by decide +kernel
theorem dX8_captureNow_45 : decode cX8_captureNow 45 = .ok (.iload 4, 2) := by decide +kernel
theorem dX8_captureNow_47 : decode cX8_captureNow 47 = .ok (.iload 7, 2) := by decide +kernel
theorem dX8_captureNow_49 : decode cX8_captureNow 49 = .ok (.invokestatic 310, 3) := by decide +kernel
theorem dX8_captureNow_52 : decode cX8_captureNow 52 = .ok (.istore 8, 2) := by decide +kernel
theorem dX8_captureNow_54 : decode cX8_captureNow 54 = .ok (.iload 7, 2) := by decide +kernel
theorem dX8_captureNow_56 : decode cX8_captureNow 56 = .ok (.invokestatic 314, 3) := by decide +kernel
theorem dX8_captureNow_59 : decode cX8_captureNow 59 = .ok (.iload_n 3, 1) := by decide +kernel
theorem dX8_captureNow_60 : decode cX8_captureNow 60 = .ok (.iload 6, 2) := by decide +kernel
theorem dX8_captureNow_62 : decode cX8_captureNow 62 = .ok (.invokestatic 319, 3) := by decide +kernel
theorem dX8_captureNow_65 : decode cX8_captureNow 65 = .ok (.imul, 1) := by decide +kernel
theorem dX8_captureNow_66 : decode cX8_captureNow 66 = .ok (.istore 9, 2) := by decide +kernel
theorem dX8_captureNow_68 : decode cX8_captureNow 68 = .ok (.iload 9, 2) := by decide +kernel
theorem dX8_captureNow_70 : decode cX8_captureNow 70 = .ok (.ifCond .gt 5, 3) := by decide +kernel
theorem dX8_captureNow_73 : decode cX8_captureNow 73 = .ok (.iconst 0, 1) := by decide +kernel
theorem dX8_captureNow_74 : decode cX8_captureNow 74 = .ok (.ireturn, 1) := by decide +kernel
theorem dX8_captureNow_75 : decode cX8_captureNow 75 = .ok (.aload_n 0, 1) := by decide +kernel
theorem dX8_captureNow_76 : decode cX8_captureNow 76 = .ok (.getfield 10, 3) := by decide +kernel
theorem dX8_captureNow_79 : decode cX8_captureNow 79 = .ok (.getfield 91, 3) := by decide +kernel
theorem dX8_captureNow_82 : decode cX8_captureNow 82 = .ok (.iload_n 2, 1) := by decide +kernel
theorem dX8_captureNow_83 : decode cX8_captureNow 83 = .ok (.iconst 3, 1) := by decide +kernel
theorem dX8_captureNow_84 : decode cX8_captureNow 84 = .ok (.invokevirtual 98, 3) := by decide +kernel
theorem dX8_captureNow_87 : decode cX8_captureNow 87 = .ok (.iload 8, 2) := by decide +kernel
theorem dX8_captureNow_89 : decode cX8_captureNow 89 = .ok (.imul, 1) := by decide +kernel
theorem dX8_captureNow_90 : decode cX8_captureNow 90 = .ok (.iload_n 3, 1) := by decide +kernel
theorem dX8_captureNow_91 : decode cX8_captureNow 91 = .ok (.iload 6, 2) := by decide +kernel
theorem dX8_captureNow_93 : decode cX8_captureNow 93 = .ok (.invokestatic 155, 3) := by decide +kernel
theorem dX8_captureNow_96 : decode cX8_captureNow 96 = .ok (.imul, 1) := by decide +kernel
theorem dX8_captureNow_97 : decode cX8_captureNow 97 = .ok (.iload 9, 2) := by decide +kernel
theorem dX8_captureNow_99 : decode cX8_captureNow 99 = .ok (.idiv, 1) := by decide +kernel
theorem dX8_captureNow_100 : decode cX8_captureNow 100 = .ok (.istore 10, 2) := by decide +kernel
theorem dX8_captureNow_102 : decode cX8_captureNow 102 = .ok (.iconst 0, 1) := by decide +kernel
theorem dX8_captureNow_103 : decode cX8_captureNow 103 = .ok (.iload 10, 2) := by decide +kernel
theorem dX8_captureNow_105 : decode cX8_captureNow 105 = .ok (.aload_n 0, 1) := by decide +kernel
theorem dX8_captureNow_106 : decode cX8_captureNow 106 = .ok (.getfield 10, 3) := by decide +kernel
theorem dX8_captureNow_109 : decode cX8_captureNow 109 = .ok (.getfield 65, 3) := by decide +kernel
theorem dX8_captureNow_112 : decode cX8_captureNow 112 = .ok (.iload_n 1, 1) := by decide +kernel
theorem dX8_captureNow_113 : decode cX8_captureNow 113 = .ok (.iconst 5, 1) := by decide +kernel
theorem dX8_captureNow_114 : decode cX8_captureNow 114 = .ok (.invokevirtual 98, 3) := by decide +kernel
theorem dX8_captureNow_117 : decode cX8_captureNow 117 = .ok (.isub, 1) := by decide +kernel
theorem dX8_captureNow_118 : decode cX8_captureNow 118 = .ok (.invokestatic 319, 3) := by decide +kernel
theorem dX8_captureNow_121 : decode cX8_captureNow 121 = .ok (.ireturn, 1) := by decide +kernel
theorem dX8_tracksHeard_0 : decode cX8_tracksHeard 0 = .ok (.iconst 0, 1) := by decide +kernel
theorem dX8_tracksHeard_1 : decode cX8_tracksHeard 1 = .ok (.istore 6, 2) := by decide +kernel
theorem dX8_tracksHeard_3 : decode cX8_tracksHeard 3 = .ok (.iconst 0, 1) := by decide +kernel
theorem dX8_tracksHeard_4 : decode cX8_tracksHeard 4 = .ok (.istore 7, 2) := by decide +kernel
theorem dX8_tracksHeard_6 : decode cX8_tracksHeard 6 = .ok (.iload 7, 2) := by decide +kernel
theorem dX8_tracksHeard_8 : decode cX8_tracksHeard 8 = .ok (.iconst 4, 1) := by decide +kernel
theorem dX8_tracksHeard_9 : decode cX8_tracksHeard 9 = .ok (.if_icmp .ge 34, 3) := by decide +kernel
theorem dX8_tracksHeard_12 : decode cX8_tracksHeard 12 = .ok (.aload_n 0, 1) := by decide +kernel
theorem dX8_tracksHeard_13 : decode cX8_tracksHeard 13 = .ok (.iload_n 1, 1) := by decide +kernel
theorem dX8_tracksHeard_14 : decode cX8_tracksHeard 14 = .ok (.iload_n 2, 1) := by decide +kernel
theorem dX8_tracksHeard_15 : decode cX8_tracksHeard 15 = .ok (.iload_n 3, 1) := by decide +kernel
theorem dX8_tracksHeard_16 : decode cX8_tracksHeard 16 = .ok (.iload 4, 2) := by decide +kernel
theorem dX8_tracksHeard_18 : decode cX8_tracksHeard 18 = .ok (.iload 7, 2) := by decide +kernel
theorem dX8_tracksHeard_20 : decode cX8_tracksHeard 20 = .ok (.invokevirtual 254, 3) := by decide +kernel
theorem dX8_tracksHeard_23 : decode cX8_tracksHeard 23 = .ok (.iload 5, 2) := by decide +kernel
theorem dX8_tracksHeard_25 : decode cX8_tracksHeard 25 = .ok (.if_icmp .lt 12, 3) := by decide +kernel
theorem dX8_tracksHeard_28 : decode cX8_tracksHeard 28 = .ok (.iload 6, 2) := by decide +kernel
theorem dX8_tracksHeard_30 : decode cX8_tracksHeard 30 = .ok (.iconst 1, 1) := by decide +kernel
theorem dX8_tracksHeard_31 : decode cX8_tracksHeard 31 = .ok (.iload 7, 2) := by decide +kernel
theorem dX8_tracksHeard_33 : decode cX8_tracksHeard 33 = .ok (.ishl, 1) := by decide +kernel
theorem dX8_tracksHeard_34 : decode cX8_tracksHeard 34 = .ok (.ior, 1) := by decide +kernel
theorem dX8_tracksHeard_35 : decode cX8_tracksHeard 35 = .ok (.istore 6, 2) := by decide +kernel
theorem dX8_tracksHeard_37 : decode cX8_tracksHeard 37 = .ok (.iinc 7 1, 3) := by decide +kernel
theorem dX8_tracksHeard_40 : decode cX8_tracksHeard 40 = .ok (.goto (-34), 3) := by decide +kernel
theorem dX8_tracksHeard_43 : decode cX8_tracksHeard 43 = .ok (.iload 6, 2) := by decide +kernel
theorem dX8_tracksHeard_45 : decode cX8_tracksHeard 45 = .ok (.ireturn, 1) := by decide +kernel
theorem dX8_playsOfPass_0 : decode cX8_playsOfPass 0 = .ok (.iload_n 2, 1) := by decide +kernel
theorem dX8_playsOfPass_1 : decode cX8_playsOfPass 1 = .ok (.aload_n 0, 1) := by decide +kernel
theorem dX8_playsOfPass_2 : decode cX8_playsOfPass 2 = .ok (.getfield 10, 3) := by decide +kernel
theorem dX8_playsOfPass_5 : decode cX8_playsOfPass 5 = .ok (.getfield 65, 3) := by decide +kernel
theorem dX8_playsOfPass_8 : decode cX8_playsOfPass 8 = .ok (.iload_n 1, 1) := by decide +kernel
theorem dX8_playsOfPass_9 : decode cX8_playsOfPass 9 = .ok (.iconst 1, 1) := by decide +kernel
theorem dX8_playsOfPass_10 : decode cX8_playsOfPass 10 = .ok (.invokevirtual 98, 3) := by decide +kernel
theorem dX8_playsOfPass_13 : decode cX8_playsOfPass 13 = .ok (.if_icmp .le 7, 3) := by decide +kernel
theorem dX8_playsOfPass_16 : decode cX8_playsOfPass 16 = .ok (.iconst 2, 1) := by decide +kernel
theorem dX8_playsOfPass_17 : decode cX8_playsOfPass 17 = .ok (.goto 4, 3) := by decide +kernel
theorem dX8_playsOfPass_20 : decode cX8_playsOfPass 20 = .ok (.iconst 1, 1) := by decide +kernel
theorem dX8_playsOfPass_21 : decode cX8_playsOfPass 21 = .ok (.ireturn, 1) := by decide +kernel
theorem dX8_secondsOfPass_0 : decode cX8_secondsOfPass 0 = .ok (.iload_n 2, 1) := by decide +kernel
theorem dX8_secondsOfPass_1 : decode cX8_secondsOfPass 1 = .ok (.ifCond .gt 5, 3) := by decide +kernel
theorem dX8_secondsOfPass_4 : decode cX8_secondsOfPass 4 = .ok (.iconst 0, 1) := by decide +kernel
theorem dX8_secondsOfPass_5 : decode cX8_secondsOfPass 5 = .ok (.ireturn, 1) := by decide +kernel
theorem dX8_secondsOfPass_6 : decode cX8_secondsOfPass 6 = .ok (.aload_n 0, 1) := by decide +kernel
theorem dX8_secondsOfPass_7 : decode cX8_secondsOfPass 7 = .ok (.getfield 10, 3) := by decide +kernel
theorem dX8_secondsOfPass_10 : decode cX8_secondsOfPass 10 = .ok (.getfield 65, 3) := by decide +kernel
theorem dX8_secondsOfPass_13 : decode cX8_secondsOfPass 13 = .ok (.iload_n 1, 1) := by decide +kernel
theorem dX8_secondsOfPass_14 : decode cX8_secondsOfPass 14 = .ok (.iconst 3, 1) := by decide +kernel
theorem dX8_secondsOfPass_15 : decode cX8_secondsOfPass 15 = .ok (.invokevirtual 98, 3) := by decide +kernel
theorem dX8_secondsOfPass_18 : decode cX8_secondsOfPass 18 = .ok (.aload_n 0, 1) := by decide +kernel
theorem dX8_secondsOfPass_19 : decode cX8_secondsOfPass 19 = .ok (.getfield 10, 3) := by decide +kernel
theorem dX8_secondsOfPass_22 : decode cX8_secondsOfPass 22 = .ok (.getfield 65, 3) := by decide +kernel
theorem dX8_secondsOfPass_25 : decode cX8_secondsOfPass 25 = .ok (.iload_n 1, 1) := by decide +kernel
theorem dX8_secondsOfPass_26 : decode cX8_secondsOfPass 26 = .ok (.iconst 1, 1) := by decide +kernel
theorem dX8_secondsOfPass_27 : decode cX8_secondsOfPass 27 = .ok (.invokevirtual 98, 3) := by decide +kernel
theorem dX8_secondsOfPass_30 : decode cX8_secondsOfPass 30 = .ok (.imul, 1) := by decide +kernel
theorem dX8_secondsOfPass_31 : decode cX8_secondsOfPass 31 = .ok (.istore_n 3, 1) := by decide +kernel
theorem dX8_secondsOfPass_32 : decode cX8_secondsOfPass 32 = .ok (.iload_n 3, 1) := by decide +kernel
theorem dX8_secondsOfPass_33 : decode cX8_secondsOfPass 33 = .ok (.iload_n 2, 1) := by decide +kernel
theorem dX8_secondsOfPass_34 : decode cX8_secondsOfPass 34 = .ok (.iadd, 1) := by decide +kernel
theorem dX8_secondsOfPass_35 : decode cX8_secondsOfPass 35 = .ok (.iconst 1, 1) := by decide +kernel
theorem dX8_secondsOfPass_36 : decode cX8_secondsOfPass 36 = .ok (.isub, 1) := by decide +kernel
theorem dX8_secondsOfPass_37 : decode cX8_secondsOfPass 37 = .ok (.iload_n 2, 1) := by decide +kernel
theorem dX8_secondsOfPass_38 : decode cX8_secondsOfPass 38 = .ok (.idiv, 1) := by decide +kernel
theorem dX8_secondsOfPass_39 : decode cX8_secondsOfPass 39 = .ok (.ireturn, 1) := by decide +kernel
theorem dX8_qualityInPass_0 : decode cX8_qualityInPass 0 = .ok (.aload_n 0, 1) := by decide +kernel
theorem dX8_qualityInPass_1 : decode cX8_qualityInPass 1 = .ok (.getfield 10, 3) := by decide +kernel
theorem dX8_qualityInPass_4 : decode cX8_qualityInPass 4 = .ok (.getfield 215, 3) := by decide +kernel
theorem dX8_qualityInPass_7 : decode cX8_qualityInPass 7 = .ok (.iload_n 1, 1) := by decide +kernel
theorem dX8_qualityInPass_8 : decode cX8_qualityInPass 8 = .ok (.iconst 0, 1) := by decide +kernel
theorem dX8_qualityInPass_9 : decode cX8_qualityInPass 9 = .ok (.invokevirtual 98, 3) := by decide +kernel
theorem dX8_qualityInPass_12 : decode cX8_qualityInPass 12 = .ok (.aload_n 0, 1) := by decide +kernel
theorem dX8_qualityInPass_13 : decode cX8_qualityInPass 13 = .ok (.getfield 10, 3) := by decide +kernel
theorem dX8_qualityInPass_16 : decode cX8_qualityInPass 16 = .ok (.getfield 109, 3) := by decide +kernel
theorem dX8_qualityInPass_19 : decode cX8_qualityInPass 19 = .ok (.iload_n 2, 1) := by decide +kernel
theorem dX8_qualityInPass_20 : decode cX8_qualityInPass 20 = .ok (.iconst 0, 1) := by decide +kernel
theorem dX8_qualityInPass_21 : decode cX8_qualityInPass 21 = .ok (.invokevirtual 98, 3) := by decide +kernel
theorem dX8_qualityInPass_24 : decode cX8_qualityInPass 24 = .ok (.if_icmp .eq 5, 3) := by decide +kernel
theorem dX8_qualityInPass_27 : decode cX8_qualityInPass 27 = .ok (.iconst 0, 1) := by decide +kernel
theorem dX8_qualityInPass_28 : decode cX8_qualityInPass 28 = .ok (.ireturn, 1) := by decide +kernel
theorem dX8_qualityInPass_29 : decode cX8_qualityInPass 29 = .ok (.aload_n 0, 1) := by decide +kernel
theorem dX8_qualityInPass_30 : decode cX8_qualityInPass 30 = .ok (.getfield 10, 3) := by decide +kernel
theorem dX8_qualityInPass_33 : decode cX8_qualityInPass 33 = .ok (.getfield 109, 3) := by decide +kernel
theorem dX8_qualityInPass_36 : decode cX8_qualityInPass 36 = .ok (.iload_n 2, 1) := by decide +kernel
theorem dX8_qualityInPass_37 : decode cX8_qualityInPass 37 = .ok (.iconst 1, 1) := by decide +kernel
theorem dX8_qualityInPass_38 : decode cX8_qualityInPass 38 = .ok (.invokevirtual 98, 3) := by decide +kernel
theorem dX8_qualityInPass_41 : decode cX8_qualityInPass 41 = .ok (.istore_n 3, 1) := by decide +kernel
theorem dX8_qualityInPass_42 : decode cX8_qualityInPass 42 = .ok (.bipush 100, 2) := by decide +kernel
theorem dX8_qualityInPass_44 : decode cX8_qualityInPass 44 = .ok (.istore 4, 2) := by decide +kernel
theorem dX8_qualityInPass_46 : decode cX8_qualityInPass 46 = .ok (.iconst 0, 1) := by decide +kernel
theorem dX8_qualityInPass_47 : decode cX8_qualityInPass 47 = .ok (.istore 5, 2) := by decide +kernel
theorem dX8_qualityInPass_49 : decode cX8_qualityInPass 49 = .ok (.iload 5, 2) := by decide +kernel
theorem dX8_qualityInPass_51 : decode cX8_qualityInPass 51 = .ok (.iconst 4, 1) := by decide +kernel
theorem dX8_qualityInPass_52 : decode cX8_qualityInPass 52 = .ok (.if_icmp .ge 41, 3) := by decide +kernel
theorem dX8_qualityInPass_55 : decode cX8_qualityInPass 55 = .ok (.iload_n 3, 1) := by decide +kernel
theorem dX8_qualityInPass_56 : decode cX8_qualityInPass 56 = .ok (.iconst 1, 1) := by decide +kernel
theorem dX8_qualityInPass_57 : decode cX8_qualityInPass 57 = .ok (.iload 5, 2) := by decide +kernel
theorem dX8_qualityInPass_59 : decode cX8_qualityInPass 59 = .ok (.ishl, 1) := by decide +kernel
theorem dX8_qualityInPass_60 : decode cX8_qualityInPass 60 = .ok (.iand, 1) := by decide +kernel
theorem dX8_qualityInPass_61 : decode cX8_qualityInPass 61 = .ok (.ifCond .eq 26, 3) := by decide +kernel
theorem dX8_qualityInPass_64 : decode cX8_qualityInPass 64 = .ok (.iload 4, 2) := by decide +kernel
theorem dX8_qualityInPass_66 : decode cX8_qualityInPass 66 = .ok (.aload_n 0, 1) := by decide +kernel
theorem dX8_qualityInPass_67 : decode cX8_qualityInPass 67 = .ok (.getfield 10, 3) := by decide +kernel
theorem dX8_qualityInPass_70 : decode cX8_qualityInPass 70 = .ok (.getfield 215, 3) := by decide +kernel
theorem dX8_qualityInPass_73 : decode cX8_qualityInPass 73 = .ok (.iload_n 1, 1) := by decide +kernel
theorem dX8_qualityInPass_74 : decode cX8_qualityInPass 74 = .ok (.bipush 7, 2) := by decide +kernel
theorem dX8_qualityInPass_76 : decode cX8_qualityInPass 76 = .ok (.iload 5, 2) := by decide +kernel
theorem dX8_qualityInPass_78 : decode cX8_qualityInPass 78 = .ok (.iadd, 1) := by decide +kernel
theorem dX8_qualityInPass_79 : decode cX8_qualityInPass 79 = .ok (.invokevirtual 98, 3) := by decide +kernel
theorem dX8_qualityInPass_82 : decode cX8_qualityInPass 82 = .ok (.invokestatic 155, 3) := by decide +kernel
theorem dX8_qualityInPass_85 : decode cX8_qualityInPass 85 = .ok (.istore 4, 2) := by decide +kernel
theorem dX8_qualityInPass_87 : decode cX8_qualityInPass 87 = .ok (.iinc 5 1, 3) := by decide +kernel
theorem dX8_qualityInPass_90 : decode cX8_qualityInPass 90 = .ok (.goto (-41), 3) := by decide +kernel
theorem dX8_qualityInPass_93 : decode cX8_qualityInPass 93 = .ok (.iload 4, 2) := by decide +kernel
theorem dX8_qualityInPass_95 : decode cX8_qualityInPass 95 = .ok (.ireturn, 1) := by decide +kernel
theorem dX8_findBestPass_0 : decode cX8_findBestPass 0 = .ok (.bipush (-6), 2) := by decide +kernel
theorem dX8_findBestPass_2 : decode cX8_findBestPass 2 = .ok (.istore_n 2, 1) := by decide +kernel
theorem dX8_findBestPass_3 : decode cX8_findBestPass 3 = .ok (.iconst 0, 1) := by decide +kernel
theorem dX8_findBestPass_4 : decode cX8_findBestPass 4 = .ok (.istore_n 3, 1) := by decide +kernel
theorem dX8_findBestPass_5 : decode cX8_findBestPass 5 = .ok (.iconst 0, 1) := by decide +kernel
theorem dX8_findBestPass_6 : decode cX8_findBestPass 6 = .ok (.istore 4, 2) := by decide +kernel
theorem dX8_findBestPass_8 : decode cX8_findBestPass 8 = .ok (.iload 4, 2) := by decide +kernel
theorem dX8_findBestPass_10 : decode cX8_findBestPass 10 = .ok (.aload_n 0, 1) := by decide +kernel
theorem dX8_findBestPass_11 : decode cX8_findBestPass 11 = .ok (.getfield 10, 3) := by decide +kernel
theorem dX8_findBestPass_14 : decode cX8_findBestPass 14 = .ok (.getfield 215, 3) := by decide +kernel
theorem dX8_findBestPass_17 : decode cX8_findBestPass 17 = .ok (.getfield 236, 3) := by decide +kernel
theorem dX8_findBestPass_20 : decode cX8_findBestPass 20 = .ok (.if_icmp .ge 30, 3) := by decide +kernel
theorem dX8_findBestPass_23 : decode cX8_findBestPass 23 = .ok (.aload_n 0, 1) := by decide +kernel
theorem dX8_findBestPass_24 : decode cX8_findBestPass 24 = .ok (.iload 4, 2) := by decide +kernel
theorem dX8_findBestPass_26 : decode cX8_findBestPass 26 = .ok (.iload_n 1, 1) := by decide +kernel
theorem dX8_findBestPass_27 : decode cX8_findBestPass 27 = .ok (.invokevirtual 221, 3) := by decide +kernel
theorem dX8_findBestPass_30 : decode cX8_findBestPass 30 = .ok (.istore 5, 2) := by decide +kernel
theorem dX8_findBestPass_32 : decode cX8_findBestPass 32 = .ok (.iload 5, 2) := by decide +kernel
theorem dX8_findBestPass_34 : decode cX8_findBestPass 34 = .ok (.iload_n 3, 1) := by decide +kernel
theorem dX8_findBestPass_35 : decode cX8_findBestPass 35 = .ok (.if_icmp .le 9, 3) := by decide +kernel
theorem dX8_findBestPass_38 : decode cX8_findBestPass 38 = .ok (.iload 5, 2) := by decide +kernel
theorem dX8_findBestPass_40 : decode cX8_findBestPass 40 = .ok (.istore_n 3, 1) := by decide +kernel
theorem dX8_findBestPass_41 : decode cX8_findBestPass 41 = .ok (.iload 4, 2) := by decide +kernel
theorem dX8_findBestPass_43 : decode cX8_findBestPass 43 = .ok (.istore_n 2, 1) := by decide +kernel
theorem dX8_findBestPass_44 : decode cX8_findBestPass 44 = .ok (.iinc 4 1, 3) := by decide +kernel
theorem dX8_findBestPass_47 : decode cX8_findBestPass 47 = .ok (.goto (-39), 3) := by decide +kernel
theorem dX8_findBestPass_50 : decode cX8_findBestPass 50 = .ok (.iload_n 2, 1) := by decide +kernel
theorem dX8_findBestPass_51 : decode cX8_findBestPass 51 = .ok (.ireturn, 1) := by decide +kernel
theorem dX8_rowOfPart_0 : decode cX8_rowOfPart 0 = .ok (.iload_n 0, 1) := by decide +kernel
theorem dX8_rowOfPart_1 : decode cX8_rowOfPart 1 = .ok (.iconst 4, 1) := by decide +kernel
theorem dX8_rowOfPart_2 : decode cX8_rowOfPart 2 = .ok (.imul, 1) := by decide +kernel
theorem dX8_rowOfPart_3 : decode cX8_rowOfPart 3 = .ok (.iload_n 1, 1) := by decide +kernel
theorem dX8_rowOfPart_4 : decode cX8_rowOfPart 4 = .ok (.iadd, 1) := by decide +kernel
theorem dX8_rowOfPart_5 : decode cX8_rowOfPart 5 = .ok (.ireturn, 1) := by decide +kernel
theorem dX8_isProtected_0 : decode cX8_isProtected 0 = .ok (.aload_n 0, 1) := by decide +kernel
theorem dX8_isProtected_1 : decode cX8_isProtected 1 = .ok (.getfield 10, 3) := by decide +kernel
theorem dX8_isProtected_4 : decode cX8_isProtected 4 = .ok (.getfield 151, 3) := by decide +kernel
theorem dX8_isProtected_7 : decode cX8_isProtected 7 = .ok (.aload_n 0, 1) := by decide +kernel
theorem dX8_isProtected_8 : decode cX8_isProtected 8 = .ok (.getfield 10, 3) := by decide +kernel
theorem dX8_isProtected_11 : decode cX8_isProtected 11 = .ok (.getfield 128, 3) := by decide +kernel
theorem dX8_isProtected_14 : decode cX8_isProtected 14 = .ok (.iload_n 1, 1) := by decide +kernel
theorem dX8_isProtected_15 : decode cX8_isProtected 15 = .ok (.iconst 3, 1) := by decide +kernel
theorem dX8_isProtected_16 : decode cX8_isProtected 16 = .ok (.invokevirtual 98, 3) := by decide +kernel
theorem dX8_isProtected_19 : decode cX8_isProtected 19 = .ok (.if_icmp .ge 7, 3) := by decide +kernel
theorem dX8_isProtected_22 : decode cX8_isProtected 22 = .ok (.iconst 1, 1) := by decide +kernel
theorem dX8_isProtected_23 : decode cX8_isProtected 23 = .ok (.goto 4, 3) := by decide +kernel
theorem dX8_isProtected_26 : decode cX8_isProtected 26 = .ok (.iconst 0, 1) := by decide +kernel
theorem dX8_isProtected_27 : decode cX8_isProtected 27 = .ok (.ireturn, 1) := by decide +kernel
theorem dX8_boundSeconds_0 : decode cX8_boundSeconds 0 = .ok (.aload_n 0, 1) := by decide +kernel
theorem dX8_boundSeconds_1 : decode cX8_boundSeconds 1 = .ok (.iload_n 1, 1) := by decide +kernel
theorem dX8_boundSeconds_2 : decode cX8_boundSeconds 2 = .ok (.invokevirtual 212, 3) := by decide +kernel
theorem dX8_boundSeconds_5 : decode cX8_boundSeconds 5 = .ok (.ifCond .eq 19, 3) := by decide +kernel
theorem dX8_boundSeconds_8 : decode cX8_boundSeconds 8 = .ok (.aload_n 0, 1) := by decide +kernel
theorem dX8_boundSeconds_9 : decode cX8_boundSeconds 9 = .ok (.getfield 10, 3) := by decide +kernel
theorem dX8_boundSeconds_12 : decode cX8_boundSeconds 12 = .ok (.getfield 128, 3) := by decide +kernel
theorem dX8_boundSeconds_15 : decode cX8_boundSeconds 15 = .ok (.iload_n 1, 1) := by decide +kernel
theorem dX8_boundSeconds_16 : decode cX8_boundSeconds 16 = .ok (.iconst 2, 1) := by decide +kernel
theorem dX8_boundSeconds_17 : decode cX8_boundSeconds 17 = .ok (.invokevirtual 98, 3) := by decide +kernel
theorem dX8_boundSeconds_20 : decode cX8_boundSeconds 20 = .ok (.iload_n 2, 1) := by decide +kernel
theorem dX8_boundSeconds_21 : decode cX8_boundSeconds 21 = .ok (.if_icmp .ne 5, 3) := by decide +kernel
theorem dX8_boundSeconds_24 : decode cX8_boundSeconds 24 = .ok (.iconst 0, 1) := by decide +kernel
theorem dX8_boundSeconds_25 : decode cX8_boundSeconds 25 = .ok (.ireturn, 1) := by decide +kernel
theorem dX8_boundSeconds_26 : decode cX8_boundSeconds 26 = .ok (.iload_n 3, 1) := by decide +kernel
theorem dX8_boundSeconds_27 : decode cX8_boundSeconds 27 = .ok (.aload_n 0, 1) := by decide +kernel
theorem dX8_boundSeconds_28 : decode cX8_boundSeconds 28 = .ok (.getfield 10, 3) := by decide +kernel
theorem dX8_boundSeconds_31 : decode cX8_boundSeconds 31 = .ok (.getfield 128, 3) := by decide +kernel
theorem dX8_boundSeconds_34 : decode cX8_boundSeconds 34 = .ok (.iload_n 1, 1) := by decide +kernel
theorem dX8_boundSeconds_35 : decode cX8_boundSeconds 35 = .ok (.iconst 0, 1) := by decide +kernel
theorem dX8_boundSeconds_36 : decode cX8_boundSeconds 36 = .ok (.invokevirtual 98, 3) := by decide +kernel
theorem dX8_boundSeconds_39 : decode cX8_boundSeconds 39 = .ok (.invokestatic 319, 3) := by decide +kernel
theorem dX8_boundSeconds_42 : decode cX8_boundSeconds 42 = .ok (.istore 5, 2) := by decide +kernel
theorem dX8_boundSeconds_44 : decode cX8_boundSeconds 44 = .ok (.iload 4, 2) := by decide +kernel
theorem dX8_boundSeconds_46 : decode cX8_boundSeconds 46 = .ok (.aload_n 0, 1) := by decide +kernel
theorem dX8_boundSeconds_47 : decode cX8_boundSeconds 47 = .ok (.getfield 10, 3) := by decide +kernel
theorem dX8_boundSeconds_50 : decode cX8_boundSeconds 50 = .ok (.getfield 128, 3) := by decide +kernel
theorem dX8_boundSeconds_53 : decode cX8_boundSeconds 53 = .ok (.iload_n 1, 1) := by decide +kernel
theorem dX8_boundSeconds_54 : decode cX8_boundSeconds 54 = .ok (.iconst 1, 1) := by decide +kernel
theorem dX8_boundSeconds_55 : decode cX8_boundSeconds 55 = .ok (.invokevirtual 98, 3) := by decide +kernel
theorem dX8_boundSeconds_58 : decode cX8_boundSeconds 58 = .ok (.invokestatic 155, 3) := by decide +kernel
theorem dX8_boundSeconds_61 : decode cX8_boundSeconds 61 = .ok (.istore 6, 2) := by decide +kernel
theorem dX8_boundSeconds_63 : decode cX8_boundSeconds 63 = .ok (.iconst 0, 1) := by decide +kernel
theorem dX8_boundSeconds_64 : decode cX8_boundSeconds 64 = .ok (.iload 6, 2) := by decide +kernel
theorem dX8_boundSeconds_66 : decode cX8_boundSeconds 66 = .ok (.iload 5, 2) := by decide +kernel
theorem dX8_boundSeconds_68 : decode cX8_boundSeconds 68 = .ok (.isub, 1) := by decide +kernel
theorem dX8_boundSeconds_69 : decode cX8_boundSeconds 69 = .ok (.invokestatic 319, 3) := by decide +kernel
theorem dX8_boundSeconds_72 : decode cX8_boundSeconds 72 = .ok (.ireturn, 1) := by decide +kernel
theorem dX8_isPermitted_0 : decode cX8_isPermitted 0 = .ok (.iconst 0, 1) := by decide +kernel
theorem dX8_isPermitted_1 : decode cX8_isPermitted 1 = .ok (.istore 4, 2) := by decide +kernel
theorem dX8_isPermitted_3 : decode cX8_isPermitted 3 = .ok (.iload 4, 2) := by decide +kernel
theorem dX8_isPermitted_5 : decode cX8_isPermitted 5 = .ok (.aload_n 0, 1) := by decide +kernel
theorem dX8_isPermitted_6 : decode cX8_isPermitted 6 = .ok (.getfield 10, 3) := by decide +kernel
theorem dX8_isPermitted_9 : decode cX8_isPermitted 9 = .ok (.getfield 138, 3) := by decide +kernel
theorem dX8_isPermitted_12 : decode cX8_isPermitted 12 = .ok (.getfield 236, 3) := by decide +kernel
theorem dX8_isPermitted_15 : decode cX8_isPermitted 15 = .ok (.if_icmp .ge 101, 3) := by decide +kernel
theorem dX8_isPermitted_18 : decode cX8_isPermitted 18 = .ok (.aload_n 0, 1) := by decide +kernel
theorem dX8_isPermitted_19 : decode cX8_isPermitted 19 = .ok (.getfield 10, 3) := by decide +kernel
theorem dX8_isPermitted_22 : decode cX8_isPermitted 22 = .ok (.getfield 138, 3) := by decide +kernel
theorem dX8_isPermitted_25 : decode cX8_isPermitted 25 = .ok (.iload 4, 2) := by decide +kernel
theorem dX8_isPermitted_27 : decode cX8_isPermitted 27 = .ok (.iconst 4, 1) := by decide +kernel
theorem dX8_isPermitted_28 : decode cX8_isPermitted 28 = .ok (.invokevirtual 98, 3) := by decide +kernel
theorem dX8_isPermitted_31 : decode cX8_isPermitted 31 = .ok (.ifCond .ne 79, 3) := by decide +kernel
theorem dX8_isPermitted_34 : decode cX8_isPermitted 34 = .ok (.aload_n 0, 1) := by decide +kernel
theorem dX8_isPermitted_35 : decode cX8_isPermitted 35 = .ok (.getfield 10, 3) := by decide +kernel
theorem dX8_isPermitted_38 : decode cX8_isPermitted 38 = .ok (.getfield 138, 3) := by decide +kernel
theorem dX8_isPermitted_41 : decode cX8_isPermitted 41 = .ok (.iload 4, 2) := by decide +kernel
theorem dX8_isPermitted_43 : decode cX8_isPermitted 43 = .ok (.iconst 0, 1) := by decide +kernel
theorem dX8_isPermitted_44 : decode cX8_isPermitted 44 = .ok (.invokevirtual 98, 3) := by decide +kernel
theorem dX8_isPermitted_47 : decode cX8_isPermitted 47 = .ok (.iload_n 1, 1) := by decide +kernel
theorem dX8_isPermitted_48 : decode cX8_isPermitted 48 = .ok (.if_icmp .ne 62, 3) := by decide +kernel
theorem dX8_isPermitted_51 : decode cX8_isPermitted 51 = .ok (.aload_n 0, 1) := by decide +kernel
theorem dX8_isPermitted_52 : decode cX8_isPermitted 52 = .ok (.getfield 10, 3) := by decide +kernel
theorem dX8_isPermitted_55 : decode cX8_isPermitted 55 = .ok (.getfield 138, 3) := by decide +kernel
theorem dX8_isPermitted_58 : decode cX8_isPermitted 58 = .ok (.iload 4, 2) := by decide +kernel
theorem dX8_isPermitted_60 : decode cX8_isPermitted 60 = .ok (.iconst 1, 1) := by decide +kernel
theorem dX8_isPermitted_61 : decode cX8_isPermitted 61 = .ok (.invokevirtual 98, 3) := by decide +kernel
theorem dX8_isPermitted_64 : decode cX8_isPermitted 64 = .ok (.iload_n 2, 1) := by decide +kernel
theorem dX8_isPermitted_65 : decode cX8_isPermitted 65 = .ok (.if_icmp .ne 45, 3) := by decide +kernel
theorem dX8_isPermitted_68 : decode cX8_isPermitted 68 = .ok (.aload_n 0, 1) := by decide +kernel
theorem dX8_isPermitted_69 : decode cX8_isPermitted 69 = .ok (.getfield 10, 3) := by decide +kernel
theorem dX8_isPermitted_72 : decode cX8_isPermitted 72 = .ok (.getfield 138, 3) := by decide +kernel
theorem dX8_isPermitted_75 : decode cX8_isPermitted 75 = .ok (.iload 4, 2) := by decide +kernel
theorem dX8_isPermitted_77 : decode cX8_isPermitted 77 = .ok (.iconst 2, 1) := by decide +kernel
theorem dX8_isPermitted_78 : decode cX8_isPermitted 78 = .ok (.invokevirtual 98, 3) := by decide +kernel
theorem dX8_isPermitted_81 : decode cX8_isPermitted 81 = .ok (.iload_n 3, 1) := by decide +kernel
theorem dX8_isPermitted_82 : decode cX8_isPermitted 82 = .ok (.if_icmp .lt 28, 3) := by decide +kernel
theorem dX8_isPermitted_85 : decode cX8_isPermitted 85 = .ok (.aload_n 0, 1) := by decide +kernel
theorem dX8_isPermitted_86 : decode cX8_isPermitted 86 = .ok (.getfield 10, 3) := by decide +kernel
theorem dX8_isPermitted_89 : decode cX8_isPermitted 89 = .ok (.getfield 138, 3) := by decide +kernel
theorem dX8_isPermitted_92 : decode cX8_isPermitted 92 = .ok (.iload 4, 2) := by decide +kernel
theorem dX8_isPermitted_94 : decode cX8_isPermitted 94 = .ok (.iconst 3, 1) := by decide +kernel
theorem dX8_isPermitted_95 : decode cX8_isPermitted 95 = .ok (.invokevirtual 98, 3) := by decide +kernel
theorem dX8_isPermitted_98 : decode cX8_isPermitted 98 = .ok (.aload_n 0, 1) := by decide +kernel
theorem dX8_isPermitted_99 : decode cX8_isPermitted 99 = .ok (.getfield 10, 3) := by decide +kernel
theorem dX8_isPermitted_102 : decode cX8_isPermitted 102 = .ok (.getfield 151, 3) := by decide +kernel
theorem dX8_isPermitted_105 : decode cX8_isPermitted 105 = .ok (.if_icmp .lt 5, 3) := by decide +kernel
theorem dX8_isPermitted_108 : decode cX8_isPermitted 108 = .ok (.iconst 1, 1) := by decide +kernel
theorem dX8_isPermitted_109 : decode cX8_isPermitted 109 = .ok (.ireturn, 1) := by decide +kernel
theorem dX8_isPermitted_110 : decode cX8_isPermitted 110 = .ok (.iinc 4 1, 3) := by decide +kernel
theorem dX8_isPermitted_113 : decode cX8_isPermitted 113 = .ok (.goto (-110), 3) := by decide +kernel
theorem dX8_isPermitted_116 : decode cX8_isPermitted 116 = .ok (.iconst 0, 1) := by decide +kernel
theorem dX8_isPermitted_117 : decode cX8_isPermitted 117 = .ok (.ireturn, 1) := by decide +kernel
theorem dX8_partsLacking_0 : decode cX8_partsLacking 0 = .ok (.iconst 0, 1) := by decide +kernel
theorem dX8_partsLacking_1 : decode cX8_partsLacking 1 = .ok (.istore 6, 2) := by decide +kernel
theorem dX8_partsLacking_3 : decode cX8_partsLacking 3 = .ok (.iconst 0, 1) := by decide +kernel
theorem dX8_partsLacking_4 : decode cX8_partsLacking 4 = .ok (.istore 7, 2) := by decide +kernel
theorem dX8_partsLacking_6 : decode cX8_partsLacking 6 = .ok (.iload 7, 2) := by decide +kernel
theorem dX8_partsLacking_8 : decode cX8_partsLacking 8 = .ok (.aload_n 0, 1) := by decide +kernel
theorem dX8_partsLacking_9 : decode cX8_partsLacking 9 = .ok (.getfield 10, 3) := by decide +kernel
theorem dX8_partsLacking_12 : decode cX8_partsLacking 12 = .ok (.getfield 109, 3) := by decide +kernel
theorem dX8_partsLacking_15 : decode cX8_partsLacking 15 = .ok (.iload_n 2, 1) := by decide +kernel
theorem dX8_partsLacking_16 : decode cX8_partsLacking 16 = .ok (.iconst 5, 1) := by decide +kernel
theorem dX8_partsLacking_17 : decode cX8_partsLacking 17 = .ok (.invokevirtual 98, 3) := by decide +kernel
theorem dX8_partsLacking_20 : decode cX8_partsLacking 20 = .ok (.if_icmp .ge 62, 3) := by decide +kernel
theorem dX8_partsLacking_23 : decode cX8_partsLacking 23 = .ok (.iload_n 2, 1) := by decide +kernel
theorem dX8_partsLacking_24 : decode cX8_partsLacking 24 = .ok (.iload 7, 2) := by decide +kernel
theorem dX8_partsLacking_26 : decode cX8_partsLacking 26 = .ok (.invokestatic 125, 3) := by decide +kernel
theorem dX8_partsLacking_29 : decode cX8_partsLacking 29 = .ok (.istore 8, 2) := by decide +kernel
theorem dX8_partsLacking_31 : decode cX8_partsLacking 31 = .ok (.aload_n 0, 1) := by decide +kernel
theorem dX8_partsLacking_32 : decode cX8_partsLacking 32 = .ok (.iload 8, 2) := by decide +kernel
theorem dX8_partsLacking_34 : decode cX8_partsLacking 34 = .ok (.iload_n 1, 1) := by decide +kernel
theorem dX8_partsLacking_35 : decode cX8_partsLacking 35 = .ok (.iload_n 3, 1) := by decide +kernel
theorem dX8_partsLacking_36 : decode cX8_partsLacking 36 = .ok (.iload 4, 2) := by decide +kernel
theorem dX8_partsLacking_38 : decode cX8_partsLacking 38 = .ok (.invokevirtual 338, 3) := by decide +kernel
theorem dX8_partsLacking_41 : decode cX8_partsLacking 41 = .ok (.ifCond .le 35, 3) := by decide +kernel
theorem dX8_partsLacking_44 : decode cX8_partsLacking 44 = .ok (.aload_n 0, 1) := by decide +kernel
theorem dX8_partsLacking_45 : decode cX8_partsLacking 45 = .ok (.aload_n 0, 1) := by decide +kernel
theorem dX8_partsLacking_46 : decode cX8_partsLacking 46 = .ok (.getfield 10, 3) := by decide +kernel
theorem dX8_partsLacking_49 : decode cX8_partsLacking 49 = .ok (.getfield 128, 3) := by decide +kernel
theorem dX8_partsLacking_52 : decode cX8_partsLacking 52 = .ok (.iload 8, 2) := by decide +kernel
theorem dX8_partsLacking_54 : decode cX8_partsLacking 54 = .ok (.iconst 2, 1) := by decide +kernel
theorem dX8_partsLacking_55 : decode cX8_partsLacking 55 = .ok (.invokevirtual 98, 3) := by decide +kernel
theorem dX8_partsLacking_58 : decode cX8_partsLacking 58 = .ok (.iload_n 1, 1) := by decide +kernel
theorem dX8_partsLacking_59 : decode cX8_partsLacking 59 = .ok (.iload 5, 2) := by decide +kernel
theorem dX8_partsLacking_61 : decode cX8_partsLacking 61 = .ok (.invokevirtual 341, 3) := by decide +kernel
theorem dX8_partsLacking_64 : decode cX8_partsLacking 64 = .ok (.ifCond .ne 12, 3) := by decide +kernel
theorem dX8_partsLacking_67 : decode cX8_partsLacking 67 = .ok (.iload 6, 2) := by decide +kernel
theorem dX8_partsLacking_69 : decode cX8_partsLacking 69 = .ok (.iconst 1, 1) := by decide +kernel
theorem dX8_partsLacking_70 : decode cX8_partsLacking 70 = .ok (.iload 7, 2) := by decide +kernel
theorem dX8_partsLacking_72 : decode cX8_partsLacking 72 = .ok (.ishl, 1) := by decide +kernel
theorem dX8_partsLacking_73 : decode cX8_partsLacking 73 = .ok (.ior, 1) := by decide +kernel
theorem dX8_partsLacking_74 : decode cX8_partsLacking 74 = .ok (.istore 6, 2) := by decide +kernel
theorem dX8_partsLacking_76 : decode cX8_partsLacking 76 = .ok (.iinc 7 1, 3) := by decide +kernel
theorem dX8_partsLacking_79 : decode cX8_partsLacking 79 = .ok (.goto (-73), 3) := by decide +kernel
theorem dX8_partsLacking_82 : decode cX8_partsLacking 82 = .ok (.iload 6, 2) := by decide +kernel
theorem dX8_partsLacking_84 : decode cX8_partsLacking 84 = .ok (.ireturn, 1) := by decide +kernel
theorem dX8_priceOfSecond_0 : decode cX8_priceOfSecond 0 = .ok (.iload_n 0, 1) := by decide +kernel
theorem dX8_priceOfSecond_1 : decode cX8_priceOfSecond 1 = .ok (.lookupswitch 31 #[(1, 27), (2, 29)], 27) := by decide +kernel
theorem dX8_priceOfSecond_28 : decode cX8_priceOfSecond 28 = .ok (.iconst 1, 1) := by decide +kernel
theorem dX8_priceOfSecond_29 : decode cX8_priceOfSecond 29 = .ok (.ireturn, 1) := by decide +kernel
theorem dX8_priceOfSecond_30 : decode cX8_priceOfSecond 30 = .ok (.iconst 3, 1) := by decide +kernel
theorem dX8_priceOfSecond_31 : decode cX8_priceOfSecond 31 = .ok (.ireturn, 1) := by decide +kernel
theorem dX8_priceOfSecond_32 : decode cX8_priceOfSecond 32 = .ok (.iconst 0, 1) := by decide +kernel
theorem dX8_priceOfSecond_33 : decode cX8_priceOfSecond 33 = .ok (.ireturn, 1) := by decide +kernel
theorem dX8_feeOfPart_0 : decode cX8_feeOfPart 0 = .ok (.aload_n 0, 1) := by decide +kernel
theorem dX8_feeOfPart_1 : decode cX8_feeOfPart 1 = .ok (.iload_n 1, 1) := by decide +kernel
theorem dX8_feeOfPart_2 : decode cX8_feeOfPart 2 = .ok (.iload_n 2, 1) := by decide +kernel
theorem dX8_feeOfPart_3 : decode cX8_feeOfPart 3 = .ok (.iload_n 3, 1) := by decide +kernel
theorem dX8_feeOfPart_4 : decode cX8_feeOfPart 4 = .ok (.iload 4, 2) := by decide +kernel
theorem dX8_feeOfPart_6 : decode cX8_feeOfPart 6 = .ok (.invokevirtual 338, 3) := by decide +kernel
theorem dX8_feeOfPart_9 : decode cX8_feeOfPart 9 = .ok (.iload 5, 2) := by decide +kernel
theorem dX8_feeOfPart_11 : decode cX8_feeOfPart 11 = .ok (.invokestatic 344, 3) := by decide +kernel
theorem dX8_feeOfPart_14 : decode cX8_feeOfPart 14 = .ok (.imul, 1) := by decide +kernel
theorem dX8_feeOfPart_15 : decode cX8_feeOfPart 15 = .ok (.ireturn, 1) := by decide +kernel
theorem dX8_feeOfExcerpt_0 : decode cX8_feeOfExcerpt 0 = .ok (.iconst 0, 1) := by decide +kernel
theorem dX8_feeOfExcerpt_1 : decode cX8_feeOfExcerpt 1 = .ok (.istore 6, 2) := by decide +kernel
theorem dX8_feeOfExcerpt_3 : decode cX8_feeOfExcerpt 3 = .ok (.iconst 0, 1) := by decide +kernel
theorem dX8_feeOfExcerpt_4 : decode cX8_feeOfExcerpt 4 = .ok (.istore 7, 2) := by decide +kernel
theorem dX8_feeOfExcerpt_6 : decode cX8_feeOfExcerpt 6 = .ok (.iload 7, 2) := by decide +kernel
theorem dX8_feeOfExcerpt_8 : decode cX8_feeOfExcerpt 8 = .ok (.aload_n 0, 1) := by decide +kernel
theorem dX8_feeOfExcerpt_9 : decode cX8_feeOfExcerpt 9 = .ok (.getfield 10, 3) := by decide +kernel
theorem dX8_feeOfExcerpt_12 : decode cX8_feeOfExcerpt 12 = .ok (.getfield 109, 3) := by decide +kernel
theorem dX8_feeOfExcerpt_15 : decode cX8_feeOfExcerpt 15 = .ok (.iload_n 2, 1) := by decide +kernel
theorem dX8_feeOfExcerpt_16 : decode cX8_feeOfExcerpt 16 = .ok (.iconst 5, 1) := by decide +kernel
theorem dX8_feeOfExcerpt_17 : decode cX8_feeOfExcerpt 17 = .ok (.invokevirtual 98, 3) := by decide +kernel
theorem dX8_feeOfExcerpt_20 : decode cX8_feeOfExcerpt 20 = .ok (.if_icmp .ge 30, 3) := by decide +kernel
theorem dX8_feeOfExcerpt_23 : decode cX8_feeOfExcerpt 23 = .ok (.iload 6, 2) := by decide +kernel
theorem dX8_feeOfExcerpt_25 : decode cX8_feeOfExcerpt 25 = .ok (.aload_n 0, 1) := by decide +kernel
theorem dX8_feeOfExcerpt_26 : decode cX8_feeOfExcerpt 26 = .ok (.iload_n 2, 1) := by decide +kernel
theorem dX8_feeOfExcerpt_27 : decode cX8_feeOfExcerpt 27 = .ok (.iload 7, 2) := by decide +kernel
theorem dX8_feeOfExcerpt_29 : decode cX8_feeOfExcerpt 29 = .ok (.invokestatic 125, 3) := by decide +kernel
theorem dX8_feeOfExcerpt_32 : decode cX8_feeOfExcerpt 32 = .ok (.iload_n 1, 1) := by decide +kernel
theorem dX8_feeOfExcerpt_33 : decode cX8_feeOfExcerpt 33 = .ok (.iload_n 3, 1) := by decide +kernel
theorem dX8_feeOfExcerpt_34 : decode cX8_feeOfExcerpt 34 = .ok (.iload 4, 2) := by decide +kernel
theorem dX8_feeOfExcerpt_36 : decode cX8_feeOfExcerpt 36 = .ok (.iload 5, 2) := by decide +kernel
theorem dX8_feeOfExcerpt_38 : decode cX8_feeOfExcerpt 38 = .ok (.invokevirtual 301, 3) := by decide +kernel
theorem dX8_feeOfExcerpt_41 : decode cX8_feeOfExcerpt 41 = .ok (.iadd, 1) := by decide +kernel
theorem dX8_feeOfExcerpt_42 : decode cX8_feeOfExcerpt 42 = .ok (.istore 6, 2) := by decide +kernel
theorem dX8_feeOfExcerpt_44 : decode cX8_feeOfExcerpt 44 = .ok (.iinc 7 1, 3) := by decide +kernel
theorem dX8_feeOfExcerpt_47 : decode cX8_feeOfExcerpt 47 = .ok (.goto (-41), 3) := by decide +kernel
theorem dX8_feeOfExcerpt_50 : decode cX8_feeOfExcerpt 50 = .ok (.iload 6, 2) := by decide +kernel
theorem dX8_feeOfExcerpt_52 : decode cX8_feeOfExcerpt 52 = .ok (.ireturn, 1) := by decide +kernel
theorem dX8_openAheadOf_0 : decode cX8_openAheadOf 0 = .ok (.iconst 0, 1) := by decide +kernel
theorem dX8_openAheadOf_1 : decode cX8_openAheadOf 1 = .ok (.istore_n 2, 1) := by decide +kernel
theorem dX8_openAheadOf_2 : decode cX8_openAheadOf 2 = .ok (.iconst 0, 1) := by decide +kernel
theorem dX8_openAheadOf_3 : decode cX8_openAheadOf 3 = .ok (.istore_n 3, 1) := by decide +kernel
theorem dX8_openAheadOf_4 : decode cX8_openAheadOf 4 = .ok (.iload_n 3, 1) := by decide +kernel
theorem dX8_openAheadOf_5 : decode cX8_openAheadOf 5 = .ok (.aload_n 0, 1) := by decide +kernel
theorem dX8_openAheadOf_6 : decode cX8_openAheadOf 6 = .ok (.getfield 10, 3) := by decide +kernel
theorem dX8_openAheadOf_9 : decode cX8_openAheadOf 9 = .ok (.getfield 148, 3) := by decide +kernel
theorem dX8_openAheadOf_12 : decode cX8_openAheadOf 12 = .ok (.getfield 236, 3) := by decide +kernel
theorem dX8_openAheadOf_15 : decode cX8_openAheadOf 15 = .ok (.if_icmp .ge 29, 3) := by decide +kernel
theorem dX8_openAheadOf_18 : decode cX8_openAheadOf 18 = .ok (.aload_n 0, 1) := by decide +kernel
theorem dX8_openAheadOf_19 : decode cX8_openAheadOf 19 = .ok (.iload_n 3, 1) := by decide +kernel
theorem dX8_openAheadOf_20 : decode cX8_openAheadOf 20 = .ok (.invokevirtual 160, 3) := by decide +kernel
theorem dX8_openAheadOf_23 : decode cX8_openAheadOf 23 = .ok (.ifCond .eq 15, 3) := by decide +kernel
theorem dX8_openAheadOf_26 : decode cX8_openAheadOf 26 = .ok (.aload_n 0, 1) := by decide +kernel
theorem dX8_openAheadOf_27 : decode cX8_openAheadOf 27 = .ok (.iload_n 3, 1) := by decide +kernel
theorem dX8_openAheadOf_28 : decode cX8_openAheadOf 28 = .ok (.iload_n 1, 1) := by decide +kernel
theorem dX8_openAheadOf_29 : decode cX8_openAheadOf 29 = .ok (.invokevirtual 347, 3) := by decide +kernel
theorem dX8_openAheadOf_32 : decode cX8_openAheadOf 32 = .ok (.ifCond .eq 6, 3) := by decide +kernel
theorem dX8_openAheadOf_35 : decode cX8_openAheadOf 35 = .ok (.iinc 2 1, 3) := by decide +kernel
theorem dX8_openAheadOf_38 : decode cX8_openAheadOf 38 = .ok (.iinc 3 1, 3) := by decide +kernel
theorem dX8_openAheadOf_41 : decode cX8_openAheadOf 41 = .ok (.goto (-37), 3) := by decide +kernel
theorem dX8_openAheadOf_44 : decode cX8_openAheadOf 44 = .ok (.iload_n 2, 1) := by decide +kernel
theorem dX8_openAheadOf_45 : decode cX8_openAheadOf 45 = .ok (.ireturn, 1) := by decide +kernel
theorem dX8_comesBefore_0 : decode cX8_comesBefore 0 = .ok (.aload_n 0, 1) := by decide +kernel
theorem dX8_comesBefore_1 : decode cX8_comesBefore 1 = .ok (.getfield 10, 3) := by decide +kernel
theorem dX8_comesBefore_4 : decode cX8_comesBefore 4 = .ok (.getfield 148, 3) := by decide +kernel
theorem dX8_comesBefore_7 : decode cX8_comesBefore 7 = .ok (.iload_n 1, 1) := by decide +kernel
theorem dX8_comesBefore_8 : decode cX8_comesBefore 8 = .ok (.bipush 7, 2) := by decide +kernel
theorem dX8_comesBefore_10 : decode cX8_comesBefore 10 = .ok (.invokevirtual 98, 3) := by decide +kernel
theorem dX8_comesBefore_13 : decode cX8_comesBefore 13 = .ok (.aload_n 0, 1) := by decide +kernel
theorem dX8_comesBefore_14 : decode cX8_comesBefore 14 = .ok (.getfield 10, 3) := by decide +kernel
theorem dX8_comesBefore_17 : decode cX8_comesBefore 17 = .ok (.getfield 148, 3) := by decide +kernel
theorem dX8_comesBefore_20 : decode cX8_comesBefore 20 = .ok (.iload_n 2, 1) := by decide +kernel
theorem dX8_comesBefore_21 : decode cX8_comesBefore 21 = .ok (.bipush 7, 2) := by decide +kernel
theorem dX8_comesBefore_23 : decode cX8_comesBefore 23 = .ok (.invokevirtual 98, 3) := by decide +kernel
theorem dX8_comesBefore_26 : decode cX8_comesBefore 26 = .ok (.isub, 1) := by decide +kernel
theorem dX8_comesBefore_27 : decode cX8_comesBefore 27 = .ok (.istore_n 3, 1) := by decide +kernel
theorem dX8_comesBefore_28 : decode cX8_comesBefore 28 = .ok (.iload_n 3, 1) := by decide +kernel
theorem dX8_comesBefore_29 : decode cX8_comesBefore 29 = .ok (.ifCond .eq 13, 3) := by decide +kernel
theorem dX8_comesBefore_32 : decode cX8_comesBefore 32 = .ok (.iload_n 3, 1) := by decide +kernel
theorem dX8_comesBefore_33 : decode cX8_comesBefore 33 = .ok (.ifCond .ge 7, 3) := by decide +kernel
theorem dX8_comesBefore_36 : decode cX8_comesBefore 36 = .ok (.iconst 1, 1) := by decide +kernel
theorem dX8_comesBefore_37 : decode cX8_comesBefore 37 = .ok (.goto 4, 3) := by decide +kernel
theorem dX8_comesBefore_40 : decode cX8_comesBefore 40 = .ok (.iconst 0, 1) := by decide +kernel
theorem dX8_comesBefore_41 : decode cX8_comesBefore 41 = .ok (.ireturn, 1) := by decide +kernel
theorem dX8_comesBefore_42 : decode cX8_comesBefore 42 = .ok (.aload_n 0, 1) := by decide +kernel
theorem dX8_comesBefore_43 : decode cX8_comesBefore 43 = .ok (.getfield 10, 3) := by decide +kernel
theorem dX8_comesBefore_46 : decode cX8_comesBefore 46 = .ok (.getfield 148, 3) := by decide +kernel
theorem dX8_comesBefore_49 : decode cX8_comesBefore 49 = .ok (.iload_n 1, 1) := by decide +kernel
theorem dX8_comesBefore_50 : decode cX8_comesBefore 50 = .ok (.iconst 5, 1) := by decide +kernel
theorem dX8_comesBefore_51 : decode cX8_comesBefore 51 = .ok (.invokevirtual 98, 3) := by decide +kernel
theorem dX8_comesBefore_54 : decode cX8_comesBefore 54 = .ok (.aload_n 0, 1) := by decide +kernel
theorem dX8_comesBefore_55 : decode cX8_comesBefore 55 = .ok (.getfield 10, 3) := by decide +kernel
theorem dX8_comesBefore_58 : decode cX8_comesBefore 58 = .ok (.getfield 148, 3) := by decide +kernel
theorem dX8_comesBefore_61 : decode cX8_comesBefore 61 = .ok (.iload_n 2, 1) := by decide +kernel
theorem dX8_comesBefore_62 : decode cX8_comesBefore 62 = .ok (.iconst 5, 1) := by decide +kernel
theorem dX8_comesBefore_63 : decode cX8_comesBefore 63 = .ok (.invokevirtual 98, 3) := by decide +kernel
theorem dX8_comesBefore_66 : decode cX8_comesBefore 66 = .ok (.isub, 1) := by decide +kernel
theorem dX8_comesBefore_67 : decode cX8_comesBefore 67 = .ok (.istore 4, 2) := by decide +kernel
theorem dX8_comesBefore_69 : decode cX8_comesBefore 69 = .ok (.iload 4, 2) := by decide +kernel
theorem dX8_comesBefore_71 : decode cX8_comesBefore 71 = .ok (.ifCond .eq 14, 3) := by decide +kernel
theorem dX8_comesBefore_74 : decode cX8_comesBefore 74 = .ok (.iload 4, 2) := by decide +kernel
theorem dX8_comesBefore_76 : decode cX8_comesBefore 76 = .ok (.ifCond .le 7, 3) := by decide +kernel
theorem dX8_comesBefore_79 : decode cX8_comesBefore 79 = .ok (.iconst 1, 1) := by decide +kernel
theorem dX8_comesBefore_80 : decode cX8_comesBefore 80 = .ok (.goto 4, 3) := by decide +kernel
theorem dX8_comesBefore_83 : decode cX8_comesBefore 83 = .ok (.iconst 0, 1) := by decide +kernel
theorem dX8_comesBefore_84 : decode cX8_comesBefore 84 = .ok (.ireturn, 1) := by decide +kernel
theorem dX8_comesBefore_85 : decode cX8_comesBefore 85 = .ok (.aload_n 0, 1) := by decide +kernel
theorem dX8_comesBefore_86 : decode cX8_comesBefore 86 = .ok (.getfield 10, 3) := by decide +kernel
theorem dX8_comesBefore_89 : decode cX8_comesBefore 89 = .ok (.getfield 148, 3) := by decide +kernel
theorem dX8_comesBefore_92 : decode cX8_comesBefore 92 = .ok (.iload_n 1, 1) := by decide +kernel
theorem dX8_comesBefore_93 : decode cX8_comesBefore 93 = .ok (.bipush 6, 2) := by decide +kernel
theorem dX8_comesBefore_95 : decode cX8_comesBefore 95 = .ok (.invokevirtual 98, 3) := by decide +kernel
theorem dX8_comesBefore_98 : decode cX8_comesBefore 98 = .ok (.aload_n 0, 1) := by decide +kernel
theorem dX8_comesBefore_99 : decode cX8_comesBefore 99 = .ok (.getfield 10, 3) := by decide +kernel
theorem dX8_comesBefore_102 : decode cX8_comesBefore 102 = .ok (.getfield 148, 3) := by decide +kernel
theorem dX8_comesBefore_105 : decode cX8_comesBefore 105 = .ok (.iload_n 2, 1) := by decide +kernel
theorem dX8_comesBefore_106 : decode cX8_comesBefore 106 = .ok (.bipush 6, 2) := by decide +kernel
theorem dX8_comesBefore_108 : decode cX8_comesBefore 108 = .ok (.invokevirtual 98, 3) := by decide +kernel
theorem dX8_comesBefore_111 : decode cX8_comesBefore 111 = .ok (.isub, 1) := by decide +kernel
theorem dX8_comesBefore_112 : decode cX8_comesBefore 112 = .ok (.istore 5, 2) := by decide +kernel
theorem dX8_comesBefore_114 : decode cX8_comesBefore 114 = .ok (.iload 5, 2) := by decide +kernel
theorem dX8_comesBefore_116 : decode cX8_comesBefore 116 = .ok (.ifCond .eq 16, 3) := by decide +kernel
theorem dX8_comesBefore_119 : decode cX8_comesBefore 119 = .ok (.iload 5, 2) := by decide +kernel
theorem dX8_comesBefore_121 : decode cX8_comesBefore 121 = .ok (.ifCond .le 7, 3) := by decide +kernel
theorem dX8_comesBefore_124 : decode cX8_comesBefore 124 = .ok (.iconst 1, 1) := by decide +kernel
theorem dX8_comesBefore_125 : decode cX8_comesBefore 125 = .ok (.goto 17, 3) := by decide +kernel
theorem dX8_comesBefore_128 : decode cX8_comesBefore 128 = .ok (.iconst 0, 1) := by decide +kernel
theorem dX8_comesBefore_129 : decode cX8_comesBefore 129 = .ok (.goto 13, 3) := by decide +kernel
theorem dX8_comesBefore_132 : decode cX8_comesBefore 132 = .ok (.iload_n 1, 1) := by decide +kernel
theorem dX8_comesBefore_133 : decode cX8_comesBefore 133 = .ok (.iload_n 2, 1) := by decide +kernel
theorem dX8_comesBefore_134 : decode cX8_comesBefore 134 = .ok (.if_icmp .ge 7, 3) := by decide +kernel
theorem dX8_comesBefore_137 : decode cX8_comesBefore 137 = .ok (.iconst 1, 1) := by decide +kernel
theorem dX8_comesBefore_138 : decode cX8_comesBefore 138 = .ok (.goto 4, 3) := by decide +kernel
theorem dX8_comesBefore_141 : decode cX8_comesBefore 141 = .ok (.iconst 0, 1) := by decide +kernel
theorem dX8_comesBefore_142 : decode cX8_comesBefore 142 = .ok (.ireturn, 1) := by decide +kernel
