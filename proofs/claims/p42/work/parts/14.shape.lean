def SH : List xS := [.inr (6, [some (some 1), some (some 18), some (some 105), some (some 123), some (some 141), some (some 144), some (some 148)]), .inr (3, [some (some 2), some (some 4), some (some 6), some (some 8), some (some 10), some (some 12), some (some 14), some (some 16), none, none]), .inr (4, [some (some 3), none, none]), .inl (0, 56, []), .inr (4, [some (some 5), none, none]), .inl (0, 24, []), .inr (4, [some (some 7), none, none]), .inl (0, 96, []), .inr (4, [some (some 9), none, none]), .inl (0, 256, []), .inr (4, [some (some 11), none, none]), .inl (0, 264, []), .inr (4, [some (some 13), none, none]), .inl (0, 120, []), .inr (4, [some (some 15), none, none]), .inl (0, 160, []), .inr (4, [some (some 17), none, none]), .inl (0, 16, []), .inr (1, [some (some 19), none, none]), .inl (2, 5, [some 20, some 37, some 54, some 71, some 88]), .inr (3, [some (some 21), some (some 23), some (some 25), some (some 27), some (some 29), some (some 31), some (some 33), some (some 35), none, none]), .inr (4, [some (some 22), none, none]), .inl (0, 56, []), .inr (4, [some (some 24), none, none]), .inl (0, 24, []), .inr (4, [some (some 26), none, none]), .inl (0, 96, []), .inr (4, [some (some 28), none, none]), .inl (0, 256, []), .inr (4, [some (some 30), none, none]), .inl (0, 264, []), .inr (4, [some (some 32), none, none]), .inl (0, 120, []), .inr (4, [some (some 34), none, none]), .inl (0, 160, []), .inr (4, [some (some 36), none, none]), .inl (0, 16, []), .inr (3, [some (some 38), some (some 40), some (some 42), some (some 44), some (some 46), some (some 48), some (some 50), some (some 52), none, none]), .inr (4, [some (some 39), none, none]), .inl (0, 56, []), .inr (4, [some (some 41), none, none]), .inl (0, 24, []), .inr (4, [some (some 43), none, none]), .inl (0, 96, []), .inr (4, [some (some 45), none, none]), .inl (0, 256, []), .inr (4, [some (some 47), none, none]), .inl (0, 264, []), .inr (4, [some (some 49), none, none]), .inl (0, 120, []), .inr (4, [some (some 51), none, none]), .inl (0, 160, []), .inr (4, [some (some 53), none, none]), .inl (0, 16, []), .inr (3, [some (some 55), some (some 57), some (some 59), some (some 61), some (some 63), some (some 65), some (some 67), some (some 69), none, none]), .inr (4, [some (some 56), none, none]), .inl (0, 56, []), .inr (4, [some (some 58), none, none]), .inl (0, 24, []), .inr (4, [some (some 60), none, none]), .inl (0, 96, []), .inr (4, [some (some 62), none, none]), .inl (0, 256, []), .inr (4, [some (some 64), none, none]), .inl (0, 264, []), .inr (4, [some (some 66), none, none]), .inl (0, 120, []), .inr (4, [some (some 68), none, none]), .inl (0, 160, []), .inr (4, [some (some 70), none, none]), .inl (0, 16, []), .inr (3, [some (some 72), some (some 74), some (some 76), some (some 78), some (some 80), some (some 82), some (some 84), some (some 86), none, none]), .inr (4, [some (some 73), none, none]), .inl (0, 56, []), .inr (4, [some (some 75), none, none]), .inl (0, 24, []), .inr (4, [some (some 77), none, none]), .inl (0, 96, []), .inr (4, [some (some 79), none, none]), .inl (0, 256, []), .inr (4, [some (some 81), none, none]), .inl (0, 264, []), .inr (4, [some (some 83), none, none]), .inl (0, 120, []), .inr (4, [some (some 85), none, none]), .inl (0, 160, []), .inr (4, [some (some 87), none, none]), .inl (0, 16, []), .inr (3, [some (some 89), some (some 91), some (some 93), some (some 95), some (some 97), some (some 99), some (some 101), some (some 103), none, none]), .inr (4, [some (some 90), none, none]), .inl (0, 56, []), .inr (4, [some (some 92), none, none]), .inl (0, 24, []), .inr (4, [some (some 94), none, none]), .inl (0, 96, []), .inr (4, [some (some 96), none, none]), .inl (0, 256, []), .inr (4, [some (some 98), none, none]), .inl (0, 264, []), .inr (4, [some (some 100), none, none]), .inl (0, 120, []), .inr (4, [some (some 102), none, none]), .inl (0, 160, []), .inr (4, [some (some 104), none, none]), .inl (0, 16, []), .inr (2, [some (some 106), none]), .inr (3, [some (some 107), some (some 109), some (some 111), some (some 113), some (some 115), some (some 117), some (some 119), some (some 121), none, none]), .inr (4, [some (some 108), none, none]), .inl (0, 56, []), .inr (4, [some (some 110), none, none]), .inl (0, 24, []), .inr (4, [some (some 112), none, none]), .inl (0, 96, []), .inr (4, [some (some 114), none, none]), .inl (0, 256, []), .inr (4, [some (some 116), none, none]), .inl (0, 264, []), .inr (4, [some (some 118), none, none]), .inl (0, 120, []), .inr (4, [some (some 120), none, none]), .inl (0, 160, []), .inr (4, [some (some 122), none, none]), .inl (0, 16, []), .inr (2, [some (some 124), none]), .inr (3, [some (some 125), some (some 127), some (some 129), some (some 131), some (some 133), some (some 135), some (some 137), some (some 139), none, none]), .inr (4, [some (some 126), none, none]), .inl (0, 56, []), .inr (4, [some (some 128), none, none]), .inl (0, 24, []), .inr (4, [some (some 130), none, none]), .inl (0, 96, []), .inr (4, [some (some 132), none, none]), .inl (0, 256, []), .inr (4, [some (some 134), none, none]), .inl (0, 264, []), .inr (4, [some (some 136), none, none]), .inl (0, 120, []), .inr (4, [some (some 138), none, none]), .inl (0, 160, []), .inr (4, [some (some 140), none, none]), .inl (0, 16, []), .inr (5, [some (some 142), some (some 143), none]), .inl (0, 80, []), .inl (0, 4, []), .inr (0, [some (some 145), some (some 146), some (some 147), none, none]), .inl (0, 6, []), .inl (0, 24, []), .inl (0, 64, []), .inl (0, 5, [])]
theorem sh_0 : SH[0]? = some (.inr (6, [some (some 1), some (some 18), some (some 105), some (some 123), some (some 141), some (some 144), some (some 148)])) := rfl
theorem rv_0 : xRv SH 0 RX8 := ⟨_, _, _, sh_0, rfl, rfl⟩
theorem sh_1 : SH[1]? = some (.inr (3, [some (some 2), some (some 4), some (some 6), some (some 8), some (some 10), some (some 12), some (some 14), some (some 16), none, none])) := rfl
theorem rv_1 : xRv SH 1 RX5 := ⟨_, _, _, sh_1, rfl, rfl⟩
theorem sh_2 : SH[2]? = some (.inr (4, [some (some 3), none, none])) := rfl
theorem rv_2 : xRv SH 2 RX6 := ⟨_, _, _, sh_2, rfl, rfl⟩
theorem sh_3 : SH[3]? = some (.inl (0, 56, [])) := rfl
theorem sh_4 : SH[4]? = some (.inr (4, [some (some 5), none, none])) := rfl
theorem rv_4 : xRv SH 4 RX6 := ⟨_, _, _, sh_4, rfl, rfl⟩
theorem sh_5 : SH[5]? = some (.inl (0, 24, [])) := rfl
theorem sh_6 : SH[6]? = some (.inr (4, [some (some 7), none, none])) := rfl
theorem rv_6 : xRv SH 6 RX6 := ⟨_, _, _, sh_6, rfl, rfl⟩
theorem sh_7 : SH[7]? = some (.inl (0, 96, [])) := rfl
theorem sh_8 : SH[8]? = some (.inr (4, [some (some 9), none, none])) := rfl
theorem rv_8 : xRv SH 8 RX6 := ⟨_, _, _, sh_8, rfl, rfl⟩
theorem sh_9 : SH[9]? = some (.inl (0, 256, [])) := rfl
theorem sh_10 : SH[10]? = some (.inr (4, [some (some 11), none, none])) := rfl
theorem rv_10 : xRv SH 10 RX6 := ⟨_, _, _, sh_10, rfl, rfl⟩
theorem sh_11 : SH[11]? = some (.inl (0, 264, [])) := rfl
theorem sh_12 : SH[12]? = some (.inr (4, [some (some 13), none, none])) := rfl
theorem rv_12 : xRv SH 12 RX6 := ⟨_, _, _, sh_12, rfl, rfl⟩
theorem sh_13 : SH[13]? = some (.inl (0, 120, [])) := rfl
theorem sh_14 : SH[14]? = some (.inr (4, [some (some 15), none, none])) := rfl
theorem rv_14 : xRv SH 14 RX6 := ⟨_, _, _, sh_14, rfl, rfl⟩
theorem sh_15 : SH[15]? = some (.inl (0, 160, [])) := rfl
theorem sh_16 : SH[16]? = some (.inr (4, [some (some 17), none, none])) := rfl
theorem rv_16 : xRv SH 16 RX6 := ⟨_, _, _, sh_16, rfl, rfl⟩
theorem sh_17 : SH[17]? = some (.inl (0, 16, [])) := rfl
theorem sh_18 : SH[18]? = some (.inr (1, [some (some 19), none, none])) := rfl
theorem rv_18 : xRv SH 18 RX1 := ⟨_, _, _, sh_18, rfl, rfl⟩
theorem sh_19 : SH[19]? = some (.inl (2, 5, [some 20, some 37, some 54, some 71, some 88])) := rfl
theorem sh_20 : SH[20]? = some (.inr (3, [some (some 21), some (some 23), some (some 25), some (some 27), some (some 29), some (some 31), some (some 33), some (some 35), none, none])) := rfl
theorem rv_20 : xRv SH 20 RX5 := ⟨_, _, _, sh_20, rfl, rfl⟩
theorem sh_21 : SH[21]? = some (.inr (4, [some (some 22), none, none])) := rfl
theorem rv_21 : xRv SH 21 RX6 := ⟨_, _, _, sh_21, rfl, rfl⟩
theorem sh_22 : SH[22]? = some (.inl (0, 56, [])) := rfl
theorem sh_23 : SH[23]? = some (.inr (4, [some (some 24), none, none])) := rfl
theorem rv_23 : xRv SH 23 RX6 := ⟨_, _, _, sh_23, rfl, rfl⟩
theorem sh_24 : SH[24]? = some (.inl (0, 24, [])) := rfl
theorem sh_25 : SH[25]? = some (.inr (4, [some (some 26), none, none])) := rfl
theorem rv_25 : xRv SH 25 RX6 := ⟨_, _, _, sh_25, rfl, rfl⟩
theorem sh_26 : SH[26]? = some (.inl (0, 96, [])) := rfl
theorem sh_27 : SH[27]? = some (.inr (4, [some (some 28), none, none])) := rfl
theorem rv_27 : xRv SH 27 RX6 := ⟨_, _, _, sh_27, rfl, rfl⟩
theorem sh_28 : SH[28]? = some (.inl (0, 256, [])) := rfl
theorem sh_29 : SH[29]? = some (.inr (4, [some (some 30), none, none])) := rfl
theorem rv_29 : xRv SH 29 RX6 := ⟨_, _, _, sh_29, rfl, rfl⟩
theorem sh_30 : SH[30]? = some (.inl (0, 264, [])) := rfl
theorem sh_31 : SH[31]? = some (.inr (4, [some (some 32), none, none])) := rfl
theorem rv_31 : xRv SH 31 RX6 := ⟨_, _, _, sh_31, rfl, rfl⟩
theorem sh_32 : SH[32]? = some (.inl (0, 120, [])) := rfl
theorem sh_33 : SH[33]? = some (.inr (4, [some (some 34), none, none])) := rfl
theorem rv_33 : xRv SH 33 RX6 := ⟨_, _, _, sh_33, rfl, rfl⟩
theorem sh_34 : SH[34]? = some (.inl (0, 160, [])) := rfl
theorem sh_35 : SH[35]? = some (.inr (4, [some (some 36), none, none])) := rfl
theorem rv_35 : xRv SH 35 RX6 := ⟨_, _, _, sh_35, rfl, rfl⟩
theorem sh_36 : SH[36]? = some (.inl (0, 16, [])) := rfl
theorem sh_37 : SH[37]? = some (.inr (3, [some (some 38), some (some 40), some (some 42), some (some 44), some (some 46), some (some 48), some (some 50), some (some 52), none, none])) := rfl
theorem rv_37 : xRv SH 37 RX5 := ⟨_, _, _, sh_37, rfl, rfl⟩
theorem sh_38 : SH[38]? = some (.inr (4, [some (some 39), none, none])) := rfl
theorem rv_38 : xRv SH 38 RX6 := ⟨_, _, _, sh_38, rfl, rfl⟩
theorem sh_39 : SH[39]? = some (.inl (0, 56, [])) := rfl
theorem sh_40 : SH[40]? = some (.inr (4, [some (some 41), none, none])) := rfl
theorem rv_40 : xRv SH 40 RX6 := ⟨_, _, _, sh_40, rfl, rfl⟩
theorem sh_41 : SH[41]? = some (.inl (0, 24, [])) := rfl
theorem sh_42 : SH[42]? = some (.inr (4, [some (some 43), none, none])) := rfl
theorem rv_42 : xRv SH 42 RX6 := ⟨_, _, _, sh_42, rfl, rfl⟩
theorem sh_43 : SH[43]? = some (.inl (0, 96, [])) := rfl
theorem sh_44 : SH[44]? = some (.inr (4, [some (some 45), none, none])) := rfl
theorem rv_44 : xRv SH 44 RX6 := ⟨_, _, _, sh_44, rfl, rfl⟩
theorem sh_45 : SH[45]? = some (.inl (0, 256, [])) := rfl
theorem sh_46 : SH[46]? = some (.inr (4, [some (some 47), none, none])) := rfl
theorem rv_46 : xRv SH 46 RX6 := ⟨_, _, _, sh_46, rfl, rfl⟩
theorem sh_47 : SH[47]? = some (.inl (0, 264, [])) := rfl
theorem sh_48 : SH[48]? = some (.inr (4, [some (some 49), none, none])) := rfl
theorem rv_48 : xRv SH 48 RX6 := ⟨_, _, _, sh_48, rfl, rfl⟩
theorem sh_49 : SH[49]? = some (.inl (0, 120, [])) := rfl
theorem sh_50 : SH[50]? = some (.inr (4, [some (some 51), none, none])) := rfl
theorem rv_50 : xRv SH 50 RX6 := ⟨_, _, _, sh_50, rfl, rfl⟩
theorem sh_51 : SH[51]? = some (.inl (0, 160, [])) := rfl
theorem sh_52 : SH[52]? = some (.inr (4, [some (some 53), none, none])) := rfl
theorem rv_52 : xRv SH 52 RX6 := ⟨_, _, _, sh_52, rfl, rfl⟩
theorem sh_53 : SH[53]? = some (.inl (0, 16, [])) := rfl
theorem sh_54 : SH[54]? = some (.inr (3, [some (some 55), some (some 57), some (some 59), some (some 61), some (some 63), some (some 65), some (some 67), some (some 69), none, none])) := rfl
theorem rv_54 : xRv SH 54 RX5 := ⟨_, _, _, sh_54, rfl, rfl⟩
theorem sh_55 : SH[55]? = some (.inr (4, [some (some 56), none, none])) := rfl
theorem rv_55 : xRv SH 55 RX6 := ⟨_, _, _, sh_55, rfl, rfl⟩
theorem sh_56 : SH[56]? = some (.inl (0, 56, [])) := rfl
theorem sh_57 : SH[57]? = some (.inr (4, [some (some 58), none, none])) := rfl
theorem rv_57 : xRv SH 57 RX6 := ⟨_, _, _, sh_57, rfl, rfl⟩
theorem sh_58 : SH[58]? = some (.inl (0, 24, [])) := rfl
theorem sh_59 : SH[59]? = some (.inr (4, [some (some 60), none, none])) := rfl
theorem rv_59 : xRv SH 59 RX6 := ⟨_, _, _, sh_59, rfl, rfl⟩
theorem sh_60 : SH[60]? = some (.inl (0, 96, [])) := rfl
theorem sh_61 : SH[61]? = some (.inr (4, [some (some 62), none, none])) := rfl
theorem rv_61 : xRv SH 61 RX6 := ⟨_, _, _, sh_61, rfl, rfl⟩
theorem sh_62 : SH[62]? = some (.inl (0, 256, [])) := rfl
theorem sh_63 : SH[63]? = some (.inr (4, [some (some 64), none, none])) := rfl
theorem rv_63 : xRv SH 63 RX6 := ⟨_, _, _, sh_63, rfl, rfl⟩
theorem sh_64 : SH[64]? = some (.inl (0, 264, [])) := rfl
theorem sh_65 : SH[65]? = some (.inr (4, [some (some 66), none, none])) := rfl
theorem rv_65 : xRv SH 65 RX6 := ⟨_, _, _, sh_65, rfl, rfl⟩
theorem sh_66 : SH[66]? = some (.inl (0, 120, [])) := rfl
theorem sh_67 : SH[67]? = some (.inr (4, [some (some 68), none, none])) := rfl
theorem rv_67 : xRv SH 67 RX6 := ⟨_, _, _, sh_67, rfl, rfl⟩
theorem sh_68 : SH[68]? = some (.inl (0, 160, [])) := rfl
theorem sh_69 : SH[69]? = some (.inr (4, [some (some 70), none, none])) := rfl
theorem rv_69 : xRv SH 69 RX6 := ⟨_, _, _, sh_69, rfl, rfl⟩
theorem sh_70 : SH[70]? = some (.inl (0, 16, [])) := rfl
theorem sh_71 : SH[71]? = some (.inr (3, [some (some 72), some (some 74), some (some 76), some (some 78), some (some 80), some (some 82), some (some 84), some (some 86), none, none])) := rfl
theorem rv_71 : xRv SH 71 RX5 := ⟨_, _, _, sh_71, rfl, rfl⟩
theorem sh_72 : SH[72]? = some (.inr (4, [some (some 73), none, none])) := rfl
theorem rv_72 : xRv SH 72 RX6 := ⟨_, _, _, sh_72, rfl, rfl⟩
theorem sh_73 : SH[73]? = some (.inl (0, 56, [])) := rfl
theorem sh_74 : SH[74]? = some (.inr (4, [some (some 75), none, none])) := rfl
theorem rv_74 : xRv SH 74 RX6 := ⟨_, _, _, sh_74, rfl, rfl⟩
theorem sh_75 : SH[75]? = some (.inl (0, 24, [])) := rfl
theorem sh_76 : SH[76]? = some (.inr (4, [some (some 77), none, none])) := rfl
theorem rv_76 : xRv SH 76 RX6 := ⟨_, _, _, sh_76, rfl, rfl⟩
theorem sh_77 : SH[77]? = some (.inl (0, 96, [])) := rfl
theorem sh_78 : SH[78]? = some (.inr (4, [some (some 79), none, none])) := rfl
theorem rv_78 : xRv SH 78 RX6 := ⟨_, _, _, sh_78, rfl, rfl⟩
theorem sh_79 : SH[79]? = some (.inl (0, 256, [])) := rfl
theorem sh_80 : SH[80]? = some (.inr (4, [some (some 81), none, none])) := rfl
theorem rv_80 : xRv SH 80 RX6 := ⟨_, _, _, sh_80, rfl, rfl⟩
theorem sh_81 : SH[81]? = some (.inl (0, 264, [])) := rfl
theorem sh_82 : SH[82]? = some (.inr (4, [some (some 83), none, none])) := rfl
theorem rv_82 : xRv SH 82 RX6 := ⟨_, _, _, sh_82, rfl, rfl⟩
theorem sh_83 : SH[83]? = some (.inl (0, 120, [])) := rfl
theorem sh_84 : SH[84]? = some (.inr (4, [some (some 85), none, none])) := rfl
theorem rv_84 : xRv SH 84 RX6 := ⟨_, _, _, sh_84, rfl, rfl⟩
theorem sh_85 : SH[85]? = some (.inl (0, 160, [])) := rfl
theorem sh_86 : SH[86]? = some (.inr (4, [some (some 87), none, none])) := rfl
theorem rv_86 : xRv SH 86 RX6 := ⟨_, _, _, sh_86, rfl, rfl⟩
theorem sh_87 : SH[87]? = some (.inl (0, 16, [])) := rfl
theorem sh_88 : SH[88]? = some (.inr (3, [some (some 89), some (some 91), some (some 93), some (some 95), some (some 97), some (some 99), some (some 101), some (some 103), none, none])) := rfl
theorem rv_88 : xRv SH 88 RX5 := ⟨_, _, _, sh_88, rfl, rfl⟩
theorem sh_89 : SH[89]? = some (.inr (4, [some (some 90), none, none])) := rfl
theorem rv_89 : xRv SH 89 RX6 := ⟨_, _, _, sh_89, rfl, rfl⟩
theorem sh_90 : SH[90]? = some (.inl (0, 56, [])) := rfl
theorem sh_91 : SH[91]? = some (.inr (4, [some (some 92), none, none])) := rfl
theorem rv_91 : xRv SH 91 RX6 := ⟨_, _, _, sh_91, rfl, rfl⟩
theorem sh_92 : SH[92]? = some (.inl (0, 24, [])) := rfl
theorem sh_93 : SH[93]? = some (.inr (4, [some (some 94), none, none])) := rfl
theorem rv_93 : xRv SH 93 RX6 := ⟨_, _, _, sh_93, rfl, rfl⟩
theorem sh_94 : SH[94]? = some (.inl (0, 96, [])) := rfl
theorem sh_95 : SH[95]? = some (.inr (4, [some (some 96), none, none])) := rfl
theorem rv_95 : xRv SH 95 RX6 := ⟨_, _, _, sh_95, rfl, rfl⟩
theorem sh_96 : SH[96]? = some (.inl (0, 256, [])) := rfl
theorem sh_97 : SH[97]? = some (.inr (4, [some (some 98), none, none])) := rfl
theorem rv_97 : xRv SH 97 RX6 := ⟨_, _, _, sh_97, rfl, rfl⟩
theorem sh_98 : SH[98]? = some (.inl (0, 264, [])) := rfl
theorem sh_99 : SH[99]? = some (.inr (4, [some (some 100), none, none])) := rfl
theorem rv_99 : xRv SH 99 RX6 := ⟨_, _, _, sh_99, rfl, rfl⟩
theorem sh_100 : SH[100]? = some (.inl (0, 120, [])) := rfl
theorem sh_101 : SH[101]? = some (.inr (4, [some (some 102), none, none])) := rfl
theorem rv_101 : xRv SH 101 RX6 := ⟨_, _, _, sh_101, rfl, rfl⟩
theorem sh_102 : SH[102]? = some (.inl (0, 160, [])) := rfl
theorem sh_103 : SH[103]? = some (.inr (4, [some (some 104), none, none])) := rfl
theorem rv_103 : xRv SH 103 RX6 := ⟨_, _, _, sh_103, rfl, rfl⟩
theorem sh_104 : SH[104]? = some (.inl (0, 16, [])) := rfl
theorem sh_105 : SH[105]? = some (.inr (2, [some (some 106), none])) := rfl
theorem rv_105 : xRv SH 105 RX4 := ⟨_, _, _, sh_105, rfl, rfl⟩
theorem sh_106 : SH[106]? = some (.inr (3, [some (some 107), some (some 109), some (some 111), some (some 113), some (some 115), some (some 117), some (some 119), some (some 121), none, none])) := rfl
theorem rv_106 : xRv SH 106 RX5 := ⟨_, _, _, sh_106, rfl, rfl⟩
theorem sh_107 : SH[107]? = some (.inr (4, [some (some 108), none, none])) := rfl
theorem rv_107 : xRv SH 107 RX6 := ⟨_, _, _, sh_107, rfl, rfl⟩
theorem sh_108 : SH[108]? = some (.inl (0, 56, [])) := rfl
theorem sh_109 : SH[109]? = some (.inr (4, [some (some 110), none, none])) := rfl
theorem rv_109 : xRv SH 109 RX6 := ⟨_, _, _, sh_109, rfl, rfl⟩
theorem sh_110 : SH[110]? = some (.inl (0, 24, [])) := rfl
theorem sh_111 : SH[111]? = some (.inr (4, [some (some 112), none, none])) := rfl
theorem rv_111 : xRv SH 111 RX6 := ⟨_, _, _, sh_111, rfl, rfl⟩
theorem sh_112 : SH[112]? = some (.inl (0, 96, [])) := rfl
theorem sh_113 : SH[113]? = some (.inr (4, [some (some 114), none, none])) := rfl
theorem rv_113 : xRv SH 113 RX6 := ⟨_, _, _, sh_113, rfl, rfl⟩
theorem sh_114 : SH[114]? = some (.inl (0, 256, [])) := rfl
theorem sh_115 : SH[115]? = some (.inr (4, [some (some 116), none, none])) := rfl
theorem rv_115 : xRv SH 115 RX6 := ⟨_, _, _, sh_115, rfl, rfl⟩
theorem sh_116 : SH[116]? = some (.inl (0, 264, [])) := rfl
theorem sh_117 : SH[117]? = some (.inr (4, [some (some 118), none, none])) := rfl
theorem rv_117 : xRv SH 117 RX6 := ⟨_, _, _, sh_117, rfl, rfl⟩
theorem sh_118 : SH[118]? = some (.inl (0, 120, [])) := rfl
theorem sh_119 : SH[119]? = some (.inr (4, [some (some 120), none, none])) := rfl
theorem rv_119 : xRv SH 119 RX6 := ⟨_, _, _, sh_119, rfl, rfl⟩
theorem sh_120 : SH[120]? = some (.inl (0, 160, [])) := rfl
theorem sh_121 : SH[121]? = some (.inr (4, [some (some 122), none, none])) := rfl
theorem rv_121 : xRv SH 121 RX6 := ⟨_, _, _, sh_121, rfl, rfl⟩
theorem sh_122 : SH[122]? = some (.inl (0, 16, [])) := rfl
theorem sh_123 : SH[123]? = some (.inr (2, [some (some 124), none])) := rfl
theorem rv_123 : xRv SH 123 RX4 := ⟨_, _, _, sh_123, rfl, rfl⟩
theorem sh_124 : SH[124]? = some (.inr (3, [some (some 125), some (some 127), some (some 129), some (some 131), some (some 133), some (some 135), some (some 137), some (some 139), none, none])) := rfl
theorem rv_124 : xRv SH 124 RX5 := ⟨_, _, _, sh_124, rfl, rfl⟩
theorem sh_125 : SH[125]? = some (.inr (4, [some (some 126), none, none])) := rfl
theorem rv_125 : xRv SH 125 RX6 := ⟨_, _, _, sh_125, rfl, rfl⟩
theorem sh_126 : SH[126]? = some (.inl (0, 56, [])) := rfl
theorem sh_127 : SH[127]? = some (.inr (4, [some (some 128), none, none])) := rfl
theorem rv_127 : xRv SH 127 RX6 := ⟨_, _, _, sh_127, rfl, rfl⟩
theorem sh_128 : SH[128]? = some (.inl (0, 24, [])) := rfl
theorem sh_129 : SH[129]? = some (.inr (4, [some (some 130), none, none])) := rfl
theorem rv_129 : xRv SH 129 RX6 := ⟨_, _, _, sh_129, rfl, rfl⟩
theorem sh_130 : SH[130]? = some (.inl (0, 96, [])) := rfl
theorem sh_131 : SH[131]? = some (.inr (4, [some (some 132), none, none])) := rfl
theorem rv_131 : xRv SH 131 RX6 := ⟨_, _, _, sh_131, rfl, rfl⟩
theorem sh_132 : SH[132]? = some (.inl (0, 256, [])) := rfl
theorem sh_133 : SH[133]? = some (.inr (4, [some (some 134), none, none])) := rfl
theorem rv_133 : xRv SH 133 RX6 := ⟨_, _, _, sh_133, rfl, rfl⟩
theorem sh_134 : SH[134]? = some (.inl (0, 264, [])) := rfl
theorem sh_135 : SH[135]? = some (.inr (4, [some (some 136), none, none])) := rfl
theorem rv_135 : xRv SH 135 RX6 := ⟨_, _, _, sh_135, rfl, rfl⟩
theorem sh_136 : SH[136]? = some (.inl (0, 120, [])) := rfl
theorem sh_137 : SH[137]? = some (.inr (4, [some (some 138), none, none])) := rfl
theorem rv_137 : xRv SH 137 RX6 := ⟨_, _, _, sh_137, rfl, rfl⟩
theorem sh_138 : SH[138]? = some (.inl (0, 160, [])) := rfl
theorem sh_139 : SH[139]? = some (.inr (4, [some (some 140), none, none])) := rfl
theorem rv_139 : xRv SH 139 RX6 := ⟨_, _, _, sh_139, rfl, rfl⟩
theorem sh_140 : SH[140]? = some (.inl (0, 16, [])) := rfl
theorem sh_141 : SH[141]? = some (.inr (5, [some (some 142), some (some 143), none])) := rfl
theorem rv_141 : xRv SH 141 RX7 := ⟨_, _, _, sh_141, rfl, rfl⟩
theorem sh_142 : SH[142]? = some (.inl (0, 80, [])) := rfl
theorem sh_143 : SH[143]? = some (.inl (0, 4, [])) := rfl
theorem sh_144 : SH[144]? = some (.inr (0, [some (some 145), some (some 146), some (some 147), none, none])) := rfl
theorem rv_144 : xRv SH 144 RX0 := ⟨_, _, _, sh_144, rfl, rfl⟩
theorem sh_145 : SH[145]? = some (.inl (0, 6, [])) := rfl
theorem sh_146 : SH[146]? = some (.inl (0, 24, [])) := rfl
theorem sh_147 : SH[147]? = some (.inl (0, 64, [])) := rfl
theorem sh_148 : SH[148]? = some (.inl (0, 5, [])) := rfl
def xT (t ct n : Nat) : Prop := SH[t]? = some (.inr (4, [some (some ct), none, none])) ∧ SH[ct]? = some (.inl (0, n, []))
def xA (ct n : Nat) : Prop := True ∧ SH[ct]? = some (.inl (0, n, []))
def xSta (b : Nat) : Prop := SH[b]? = some (.inr (3, [some (some (b + 1)), some (some (b + 3)), some (some (b + 5)), some (some (b + 7)), some (some (b + 9)), some (some (b + 11)), some (some (b + 13)), some (some (b + 15)), none, none])) ∧ xT (b + 1) (b + 2) 56 ∧ xT (b + 3) (b + 4) 24 ∧ xT (b + 5) (b + 6) 96 ∧ xT (b + 7) (b + 8) 256 ∧ xT (b + 9) (b + 10) 264 ∧ xT (b + 11) (b + 12) 120 ∧ xT (b + 13) (b + 14) 160 ∧ xT (b + 15) (b + 16) 16
def xSlo (s : Nat) : Prop := SH[s]? = some (.inr (2, [some (some (s + 1)), none])) ∧ xSta (s + 1)
theorem xSta_1 : xSta 1 := ⟨rfl, ⟨rfl, rfl⟩, ⟨rfl, rfl⟩, ⟨rfl, rfl⟩, ⟨rfl, rfl⟩, ⟨rfl, rfl⟩, ⟨rfl, rfl⟩, ⟨rfl, rfl⟩, ⟨rfl, rfl⟩⟩
theorem xT_2 : xT 2 3 56 := ⟨rfl, rfl⟩
theorem xT_4 : xT 4 5 24 := ⟨rfl, rfl⟩
theorem xT_6 : xT 6 7 96 := ⟨rfl, rfl⟩
theorem xT_8 : xT 8 9 256 := ⟨rfl, rfl⟩
theorem xT_10 : xT 10 11 264 := ⟨rfl, rfl⟩
theorem xT_12 : xT 12 13 120 := ⟨rfl, rfl⟩
theorem xT_14 : xT 14 15 160 := ⟨rfl, rfl⟩
theorem xT_16 : xT 16 17 16 := ⟨rfl, rfl⟩
theorem xSta_20 : xSta 20 := ⟨rfl, ⟨rfl, rfl⟩, ⟨rfl, rfl⟩, ⟨rfl, rfl⟩, ⟨rfl, rfl⟩, ⟨rfl, rfl⟩, ⟨rfl, rfl⟩, ⟨rfl, rfl⟩, ⟨rfl, rfl⟩⟩
theorem xT_21 : xT 21 22 56 := ⟨rfl, rfl⟩
theorem xT_23 : xT 23 24 24 := ⟨rfl, rfl⟩
theorem xT_25 : xT 25 26 96 := ⟨rfl, rfl⟩
theorem xT_27 : xT 27 28 256 := ⟨rfl, rfl⟩
theorem xT_29 : xT 29 30 264 := ⟨rfl, rfl⟩
theorem xT_31 : xT 31 32 120 := ⟨rfl, rfl⟩
theorem xT_33 : xT 33 34 160 := ⟨rfl, rfl⟩
theorem xT_35 : xT 35 36 16 := ⟨rfl, rfl⟩
theorem xSta_37 : xSta 37 := ⟨rfl, ⟨rfl, rfl⟩, ⟨rfl, rfl⟩, ⟨rfl, rfl⟩, ⟨rfl, rfl⟩, ⟨rfl, rfl⟩, ⟨rfl, rfl⟩, ⟨rfl, rfl⟩, ⟨rfl, rfl⟩⟩
theorem xT_38 : xT 38 39 56 := ⟨rfl, rfl⟩
theorem xT_40 : xT 40 41 24 := ⟨rfl, rfl⟩
theorem xT_42 : xT 42 43 96 := ⟨rfl, rfl⟩
theorem xT_44 : xT 44 45 256 := ⟨rfl, rfl⟩
theorem xT_46 : xT 46 47 264 := ⟨rfl, rfl⟩
theorem xT_48 : xT 48 49 120 := ⟨rfl, rfl⟩
theorem xT_50 : xT 50 51 160 := ⟨rfl, rfl⟩
theorem xT_52 : xT 52 53 16 := ⟨rfl, rfl⟩
theorem xSta_54 : xSta 54 := ⟨rfl, ⟨rfl, rfl⟩, ⟨rfl, rfl⟩, ⟨rfl, rfl⟩, ⟨rfl, rfl⟩, ⟨rfl, rfl⟩, ⟨rfl, rfl⟩, ⟨rfl, rfl⟩, ⟨rfl, rfl⟩⟩
theorem xT_55 : xT 55 56 56 := ⟨rfl, rfl⟩
theorem xT_57 : xT 57 58 24 := ⟨rfl, rfl⟩
theorem xT_59 : xT 59 60 96 := ⟨rfl, rfl⟩
theorem xT_61 : xT 61 62 256 := ⟨rfl, rfl⟩
theorem xT_63 : xT 63 64 264 := ⟨rfl, rfl⟩
theorem xT_65 : xT 65 66 120 := ⟨rfl, rfl⟩
theorem xT_67 : xT 67 68 160 := ⟨rfl, rfl⟩
theorem xT_69 : xT 69 70 16 := ⟨rfl, rfl⟩
theorem xSta_71 : xSta 71 := ⟨rfl, ⟨rfl, rfl⟩, ⟨rfl, rfl⟩, ⟨rfl, rfl⟩, ⟨rfl, rfl⟩, ⟨rfl, rfl⟩, ⟨rfl, rfl⟩, ⟨rfl, rfl⟩, ⟨rfl, rfl⟩⟩
theorem xT_72 : xT 72 73 56 := ⟨rfl, rfl⟩
theorem xT_74 : xT 74 75 24 := ⟨rfl, rfl⟩
theorem xT_76 : xT 76 77 96 := ⟨rfl, rfl⟩
theorem xT_78 : xT 78 79 256 := ⟨rfl, rfl⟩
theorem xT_80 : xT 80 81 264 := ⟨rfl, rfl⟩
theorem xT_82 : xT 82 83 120 := ⟨rfl, rfl⟩
theorem xT_84 : xT 84 85 160 := ⟨rfl, rfl⟩
theorem xT_86 : xT 86 87 16 := ⟨rfl, rfl⟩
theorem xSta_88 : xSta 88 := ⟨rfl, ⟨rfl, rfl⟩, ⟨rfl, rfl⟩, ⟨rfl, rfl⟩, ⟨rfl, rfl⟩, ⟨rfl, rfl⟩, ⟨rfl, rfl⟩, ⟨rfl, rfl⟩, ⟨rfl, rfl⟩⟩
theorem xT_89 : xT 89 90 56 := ⟨rfl, rfl⟩
theorem xT_91 : xT 91 92 24 := ⟨rfl, rfl⟩
theorem xT_93 : xT 93 94 96 := ⟨rfl, rfl⟩
theorem xT_95 : xT 95 96 256 := ⟨rfl, rfl⟩
theorem xT_97 : xT 97 98 264 := ⟨rfl, rfl⟩
theorem xT_99 : xT 99 100 120 := ⟨rfl, rfl⟩
theorem xT_101 : xT 101 102 160 := ⟨rfl, rfl⟩
theorem xT_103 : xT 103 104 16 := ⟨rfl, rfl⟩
theorem xSta_106 : xSta 106 := ⟨rfl, ⟨rfl, rfl⟩, ⟨rfl, rfl⟩, ⟨rfl, rfl⟩, ⟨rfl, rfl⟩, ⟨rfl, rfl⟩, ⟨rfl, rfl⟩, ⟨rfl, rfl⟩, ⟨rfl, rfl⟩⟩
theorem xT_107 : xT 107 108 56 := ⟨rfl, rfl⟩
theorem xT_109 : xT 109 110 24 := ⟨rfl, rfl⟩
theorem xT_111 : xT 111 112 96 := ⟨rfl, rfl⟩
theorem xT_113 : xT 113 114 256 := ⟨rfl, rfl⟩
theorem xT_115 : xT 115 116 264 := ⟨rfl, rfl⟩
theorem xT_117 : xT 117 118 120 := ⟨rfl, rfl⟩
theorem xT_119 : xT 119 120 160 := ⟨rfl, rfl⟩
theorem xT_121 : xT 121 122 16 := ⟨rfl, rfl⟩
theorem xSta_124 : xSta 124 := ⟨rfl, ⟨rfl, rfl⟩, ⟨rfl, rfl⟩, ⟨rfl, rfl⟩, ⟨rfl, rfl⟩, ⟨rfl, rfl⟩, ⟨rfl, rfl⟩, ⟨rfl, rfl⟩, ⟨rfl, rfl⟩⟩
theorem xT_125 : xT 125 126 56 := ⟨rfl, rfl⟩
theorem xT_127 : xT 127 128 24 := ⟨rfl, rfl⟩
theorem xT_129 : xT 129 130 96 := ⟨rfl, rfl⟩
theorem xT_131 : xT 131 132 256 := ⟨rfl, rfl⟩
theorem xT_133 : xT 133 134 264 := ⟨rfl, rfl⟩
theorem xT_135 : xT 135 136 120 := ⟨rfl, rfl⟩
theorem xT_137 : xT 137 138 160 := ⟨rfl, rfl⟩
theorem xT_139 : xT 139 140 16 := ⟨rfl, rfl⟩
theorem xSlo_105 : xSlo 105 := ⟨rfl, xSta_106⟩
theorem xSlo_123 : xSlo 123 := ⟨rfl, xSta_124⟩
def xStaB (b : Nat) : Bool := [1, 20, 37, 54, 71, 88, 106, 124].contains b
theorem xSta_of {b : Nat} (h : xStaB b = true) : xSta b := by
  have h1 : b ∈ ([1, 20, 37, 54, 71, 88, 106, 124] : List Nat) := by simpa [xStaB] using h
  simp only [List.mem_cons, List.not_mem_nil, or_false] at h1
  rcases h1 with rfl | rfl | rfl | rfl | rfl | rfl | rfl | rfl
  · exact xSta_1
  · exact xSta_20
  · exact xSta_37
  · exact xSta_54
  · exact xSta_71
  · exact xSta_88
  · exact xSta_106
  · exact xSta_124
def xSloB (b : Nat) : Bool := [105, 123].contains b
theorem xSlo_of {b : Nat} (h : xSloB b = true) : xSlo b := by
  have h1 : b ∈ ([105, 123] : List Nat) := by simpa [xSloB] using h
  simp only [List.mem_cons, List.not_mem_nil, or_false] at h1
  rcases h1 with rfl | rfl
  · exact xSlo_105
  · exact xSlo_123
def xHist (i : Int32) : Option Nat := (([some 20, some 37, some 54, some 71, some 88] : List (Option Nat))[i.toNatClampNeg]?).getD none
def xFU : Nat := 1000000
def xo {β : Type} (r : Option Nat) (a : β) (g : Nat → β) : β := match r with | none => a | some b => g b
section XG2
variable {ξ : xX} {μ μ' : xD} {pc : Nat} {ls st as rest : List Value} {sh sh' : List xS} {M : xM} {kc ks : Nat} {Q Q' : Option Value → List xS → xM → Prop} {α β : Type} {z : α}
theorem X_vR {k0 idx n : Nat} (as rest : List Value) (hLk : xLk μ.1.cls idx μ'.1) (hMk : xMkV μ' n) (hR : xRv sh k0 μ'.1.cls) (hk : xkV μ μ' 1 kc ks n as rest = true) (h0 : μ'.2.2.2.2.2.2 = (0, 0)) (hst : as.reverse ++ .ref k0 :: rest = st) (hd : decode μ.2.1 pc = .ok (.invokevirtual idx, 3)) {o : Option (Option Nat)} {a : Option α} {g : Nat → Option α} (h : xb o (fun r => xo r a g) = some z) (hX : ∀ v, o = some v → X ξ μ' 0 (.ref k0 :: as) [] sh M 0 0 (xr (some (va_rf v)) sh M)) (kn : a = some z → X ξ μ (pc + 3) ls (.null :: rest) sh M kc ks Q) (k : ∀ b, g b = some z → X ξ μ (pc + 3) ls (.ref b :: rest) sh M kc ks Q) : X ξ μ pc ls st sh M kc ks Q := by
  have e1 : μ'.2.2.2.2.2.2.1 = 0 := by rw [h0]
  have e2 : μ'.2.2.2.2.2.2.2 = 0 := by rw [h0]
  obtain ⟨v, hv, h⟩ := xb_some h
  refine X_vG as rest hLk hMk hR hk hst hd (hX v hv) (fun r sh' M' hq => ?_)
  obtain ⟨rfl, rfl, rfl⟩ := hq
  rw [e1, e2]
  cases v with
  | none => exact kn h
  | some b => exact k b h
theorem X_retR {r : Option Nat} {z : Option Nat} (hd : decode μ.2.1 pc = .ok (.areturn, 1)) (hrt : ∃ n, μ.2.2.2.1 = some (.object n)) (hk1 : kc ≤ μ.2.2.2.2.2.2.1) (hk2 : ks ≤ μ.2.2.2.2.2.2.2) (h : some r = some z) : X ξ μ pc ls [va_rf r] sh M kc ks (xr (some (va_rf z)) sh M) := by
  cases h
  exact X_areturn hd hrt hk1 hk2 ⟨rfl, rfl, rfl⟩
theorem X_retLP {v z : Int32} (hv : v &&& 1 = v) (hd : decode μ.2.1 pc = .ok (.ireturn, 1)) (hrt : μ.2.2.2.1 = some .boolean) (hk1 : kc ≤ μ.2.2.2.2.2.2.1) (hk2 : ks ≤ μ.2.2.2.2.2.2.2) (h : some v = some z) : X ξ μ pc ls [.int v] sh M kc ks (xr (some (.int z)) sh M) := by
  cases h
  exact X_ireturn hd ⟨_, hrt, xz_nar (decide_eq_true hv)⟩ hk1 hk2 ⟨rfl, rfl, rfl⟩
theorem X_retL {v : Int32} {z : Int32 × xM} (hv : v &&& 1 = v) (hd : decode μ.2.1 pc = .ok (.ireturn, 1)) (hrt : μ.2.2.2.1 = some .boolean) (hk1 : kc ≤ μ.2.2.2.2.2.2.1) (hk2 : ks ≤ μ.2.2.2.2.2.2.2) (h : some (v, M) = some z) : X ξ μ pc ls [.int v] sh M kc ks (xr (some (.int z.1)) sh z.2) := by
  cases h
  exact X_ireturn hd ⟨_, hrt, xz_nar (decide_eq_true hv)⟩ hk1 hk2 ⟨rfl, rfl, rfl⟩
end XG2
