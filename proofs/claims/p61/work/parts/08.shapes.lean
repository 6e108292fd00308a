theorem sh_0 {P : GP} (hf : g_on P 166) : (g_sh P)[0]? = some (.inr (9, [some (some 1), some (some 2), some (some 4), some (some 6), some (some 9), some (some 12), some (some 27), some (some 42), some (some 134), some (some 135)])) := hf 0 _ (by decide) rfl
theorem sh_1 {P : GP} (hf : g_on P 166) : (g_sh P)[1]? = some (.inr (6, [some (some 2), none, none])) := hf 1 _ (by decide) rfl
theorem sh_2 {P : GP} (hf : g_on P 166) : (g_sh P)[2]? = some (.inr (3, [some (some 3), none, none, none, none, none])) := hf 2 _ (by decide) rfl
theorem sh_3 {P : GP} (hf : g_on P 166) : (g_sh P)[3]? = some (.inl (.byte, 600, [])) := hf 3 _ (by decide) rfl
theorem sh_4 {P : GP} (hf : g_on P 166) : (g_sh P)[4]? = some (.inr (5, [some (some 5), none])) := hf 4 _ (by decide) rfl
theorem sh_5 {P : GP} (hf : g_on P 166) : (g_sh P)[5]? = some (.inl (.byte, 200, [])) := hf 5 _ (by decide) rfl
theorem sh_6 {P : GP} (hf : g_on P 166) : (g_sh P)[6]? = some (.inr (7, [some (some 7), some (some 8), none])) := hf 6 _ (by decide) rfl
theorem sh_7 {P : GP} (hf : g_on P 166) : (g_sh P)[7]? = some (.inl (.int, 30, [])) := hf 7 _ (by decide) rfl
theorem sh_8 {P : GP} (hf : g_on P 166) : (g_sh P)[8]? = some (.inl (.int, 90, [])) := hf 8 _ (by decide) rfl
theorem sh_9 {P : GP} (hf : g_on P 166) : (g_sh P)[9]? = some (.inr (0, [some (some 10), some (some 11)])) := hf 9 _ (by decide) rfl
theorem sh_10 {P : GP} (hf : g_on P 166) : (g_sh P)[10]? = some (.inl (.int, 8, [])) := hf 10 _ (by decide) rfl
theorem sh_11 {P : GP} (hf : g_on P 166) : (g_sh P)[11]? = some (.inl (.int, 5, [])) := hf 11 _ (by decide) rfl
theorem sh_12 {P : GP} (hf : g_on P 166) : (g_sh P)[12]? = some (.inr (8, [some (some 13), some (some 16), some (some 19), some (some 20), some (some 21), some (some 22), some (some 23), some (some 24), none, some (some 25), none, none, none, none])) := hf 12 _ (by decide) rfl
theorem sh_13 {P : GP} (hf : g_on P 166) : (g_sh P)[13]? = some (.inr (4, [some (some 14), some (some 15), none])) := hf 13 _ (by decide) rfl
theorem sh_14 {P : GP} (hf : g_on P 166) : (g_sh P)[14]? = some (.inl (.byte, 48, [])) := hf 14 _ (by decide) rfl
theorem sh_15 {P : GP} (hf : g_on P 166) : (g_sh P)[15]? = some (.inl (.int, 8, [])) := hf 15 _ (by decide) rfl
theorem sh_16 {P : GP} (hf : g_on P 166) : (g_sh P)[16]? = some (.inr (4, [some (some 17), some (some 18), none])) := hf 16 _ (by decide) rfl
theorem sh_17 {P : GP} (hf : g_on P 166) : (g_sh P)[17]? = some (.inl (.byte, 48, [])) := hf 17 _ (by decide) rfl
theorem sh_18 {P : GP} (hf : g_on P 166) : (g_sh P)[18]? = some (.inl (.int, 8, [])) := hf 18 _ (by decide) rfl
theorem sh_19 {P : GP} (hf : g_on P 166) : (g_sh P)[19]? = some (.inl (.int, 5, [])) := hf 19 _ (by decide) rfl
theorem sh_20 {P : GP} (hf : g_on P 166) : (g_sh P)[20]? = some (.inl (.int, 40, [])) := hf 20 _ (by decide) rfl
theorem sh_21 {P : GP} (hf : g_on P 166) : (g_sh P)[21]? = some (.inl (.int, 40, [])) := hf 21 _ (by decide) rfl
theorem sh_22 {P : GP} (hf : g_on P 166) : (g_sh P)[22]? = some (.inl (.int, 8, [])) := hf 22 _ (by decide) rfl
theorem sh_23 {P : GP} (hf : g_on P 166) : (g_sh P)[23]? = some (.inl (.int, 8, [])) := hf 23 _ (by decide) rfl
theorem sh_24 {P : GP} (hf : g_on P 166) : (g_sh P)[24]? = some (.inl (.int, 8, [])) := hf 24 _ (by decide) rfl
theorem sh_25 {P : GP} (hf : g_on P 166) : (g_sh P)[25]? = some (.inr (1, [some (some 26)])) := hf 25 _ (by decide) rfl
theorem sh_26 {P : GP} (hf : g_on P 166) : (g_sh P)[26]? = some (.inl (.int, 64, [])) := hf 26 _ (by decide) rfl
theorem sh_27 {P : GP} (hf : g_on P 166) : (g_sh P)[27]? = some (.inr (8, [some (some 28), some (some 31), some (some 34), some (some 35), some (some 36), some (some 37), some (some 38), some (some 39), none, some (some 40), none, none, none, none])) := hf 27 _ (by decide) rfl
theorem sh_28 {P : GP} (hf : g_on P 166) : (g_sh P)[28]? = some (.inr (4, [some (some 29), some (some 30), none])) := hf 28 _ (by decide) rfl
theorem sh_29 {P : GP} (hf : g_on P 166) : (g_sh P)[29]? = some (.inl (.byte, 48, [])) := hf 29 _ (by decide) rfl
theorem sh_30 {P : GP} (hf : g_on P 166) : (g_sh P)[30]? = some (.inl (.int, 8, [])) := hf 30 _ (by decide) rfl
theorem sh_31 {P : GP} (hf : g_on P 166) : (g_sh P)[31]? = some (.inr (4, [some (some 32), some (some 33), none])) := hf 31 _ (by decide) rfl
theorem sh_32 {P : GP} (hf : g_on P 166) : (g_sh P)[32]? = some (.inl (.byte, 48, [])) := hf 32 _ (by decide) rfl
theorem sh_33 {P : GP} (hf : g_on P 166) : (g_sh P)[33]? = some (.inl (.int, 8, [])) := hf 33 _ (by decide) rfl
theorem sh_34 {P : GP} (hf : g_on P 166) : (g_sh P)[34]? = some (.inl (.int, 5, [])) := hf 34 _ (by decide) rfl
theorem sh_35 {P : GP} (hf : g_on P 166) : (g_sh P)[35]? = some (.inl (.int, 40, [])) := hf 35 _ (by decide) rfl
theorem sh_36 {P : GP} (hf : g_on P 166) : (g_sh P)[36]? = some (.inl (.int, 40, [])) := hf 36 _ (by decide) rfl
theorem sh_37 {P : GP} (hf : g_on P 166) : (g_sh P)[37]? = some (.inl (.int, 8, [])) := hf 37 _ (by decide) rfl
theorem sh_38 {P : GP} (hf : g_on P 166) : (g_sh P)[38]? = some (.inl (.int, 8, [])) := hf 38 _ (by decide) rfl
theorem sh_39 {P : GP} (hf : g_on P 166) : (g_sh P)[39]? = some (.inl (.int, 8, [])) := hf 39 _ (by decide) rfl
theorem sh_40 {P : GP} (hf : g_on P 166) : (g_sh P)[40]? = some (.inr (1, [some (some 41)])) := hf 40 _ (by decide) rfl
theorem sh_41 {P : GP} (hf : g_on P 166) : (g_sh P)[41]? = some (.inl (.int, 64, [])) := hf 41 _ (by decide) rfl
theorem sh_42 {P : GP} (hf : g_on P 166) : (g_sh P)[42]? = some (.inr (2, [some (some 43), none, none])) := hf 42 _ (by decide) rfl
theorem sh_43 {P : GP} (hf : g_on P 166) : (g_sh P)[43]? = some (.inl (.object "PastureBanker$State", 6, [44, 59, 74, 89, 104, 119])) := hf 43 _ (by decide) rfl
theorem sh_44 {P : GP} (hf : g_on P 166) : (g_sh P)[44]? = some (.inr (8, [some (some 45), some (some 48), some (some 51), some (some 52), some (some 53), some (some 54), some (some 55), some (some 56), none, some (some 57), none, none, none, none])) := hf 44 _ (by decide) rfl
theorem sh_45 {P : GP} (hf : g_on P 166) : (g_sh P)[45]? = some (.inr (4, [some (some 46), some (some 47), none])) := hf 45 _ (by decide) rfl
theorem sh_46 {P : GP} (hf : g_on P 166) : (g_sh P)[46]? = some (.inl (.byte, 48, [])) := hf 46 _ (by decide) rfl
theorem sh_47 {P : GP} (hf : g_on P 166) : (g_sh P)[47]? = some (.inl (.int, 8, [])) := hf 47 _ (by decide) rfl
theorem sh_48 {P : GP} (hf : g_on P 166) : (g_sh P)[48]? = some (.inr (4, [some (some 49), some (some 50), none])) := hf 48 _ (by decide) rfl
theorem sh_49 {P : GP} (hf : g_on P 166) : (g_sh P)[49]? = some (.inl (.byte, 48, [])) := hf 49 _ (by decide) rfl
theorem sh_50 {P : GP} (hf : g_on P 166) : (g_sh P)[50]? = some (.inl (.int, 8, [])) := hf 50 _ (by decide) rfl
theorem sh_51 {P : GP} (hf : g_on P 166) : (g_sh P)[51]? = some (.inl (.int, 5, [])) := hf 51 _ (by decide) rfl
theorem sh_52 {P : GP} (hf : g_on P 166) : (g_sh P)[52]? = some (.inl (.int, 40, [])) := hf 52 _ (by decide) rfl
theorem sh_53 {P : GP} (hf : g_on P 166) : (g_sh P)[53]? = some (.inl (.int, 40, [])) := hf 53 _ (by decide) rfl
theorem sh_54 {P : GP} (hf : g_on P 166) : (g_sh P)[54]? = some (.inl (.int, 8, [])) := hf 54 _ (by decide) rfl
theorem sh_55 {P : GP} (hf : g_on P 166) : (g_sh P)[55]? = some (.inl (.int, 8, [])) := hf 55 _ (by decide) rfl
theorem sh_56 {P : GP} (hf : g_on P 166) : (g_sh P)[56]? = some (.inl (.int, 8, [])) := hf 56 _ (by decide) rfl
theorem sh_57 {P : GP} (hf : g_on P 166) : (g_sh P)[57]? = some (.inr (1, [some (some 58)])) := hf 57 _ (by decide) rfl
theorem sh_58 {P : GP} (hf : g_on P 166) : (g_sh P)[58]? = some (.inl (.int, 64, [])) := hf 58 _ (by decide) rfl
theorem sh_59 {P : GP} (hf : g_on P 166) : (g_sh P)[59]? = some (.inr (8, [some (some 60), some (some 63), some (some 66), some (some 67), some (some 68), some (some 69), some (some 70), some (some 71), none, some (some 72), none, none, none, none])) := hf 59 _ (by decide) rfl
theorem sh_60 {P : GP} (hf : g_on P 166) : (g_sh P)[60]? = some (.inr (4, [some (some 61), some (some 62), none])) := hf 60 _ (by decide) rfl
theorem sh_61 {P : GP} (hf : g_on P 166) : (g_sh P)[61]? = some (.inl (.byte, 48, [])) := hf 61 _ (by decide) rfl
theorem sh_62 {P : GP} (hf : g_on P 166) : (g_sh P)[62]? = some (.inl (.int, 8, [])) := hf 62 _ (by decide) rfl
theorem sh_63 {P : GP} (hf : g_on P 166) : (g_sh P)[63]? = some (.inr (4, [some (some 64), some (some 65), none])) := hf 63 _ (by decide) rfl
theorem sh_64 {P : GP} (hf : g_on P 166) : (g_sh P)[64]? = some (.inl (.byte, 48, [])) := hf 64 _ (by decide) rfl
theorem sh_65 {P : GP} (hf : g_on P 166) : (g_sh P)[65]? = some (.inl (.int, 8, [])) := hf 65 _ (by decide) rfl
theorem sh_66 {P : GP} (hf : g_on P 166) : (g_sh P)[66]? = some (.inl (.int, 5, [])) := hf 66 _ (by decide) rfl
theorem sh_67 {P : GP} (hf : g_on P 166) : (g_sh P)[67]? = some (.inl (.int, 40, [])) := hf 67 _ (by decide) rfl
theorem sh_68 {P : GP} (hf : g_on P 166) : (g_sh P)[68]? = some (.inl (.int, 40, [])) := hf 68 _ (by decide) rfl
theorem sh_69 {P : GP} (hf : g_on P 166) : (g_sh P)[69]? = some (.inl (.int, 8, [])) := hf 69 _ (by decide) rfl
theorem sh_70 {P : GP} (hf : g_on P 166) : (g_sh P)[70]? = some (.inl (.int, 8, [])) := hf 70 _ (by decide) rfl
theorem sh_71 {P : GP} (hf : g_on P 166) : (g_sh P)[71]? = some (.inl (.int, 8, [])) := hf 71 _ (by decide) rfl
theorem sh_72 {P : GP} (hf : g_on P 166) : (g_sh P)[72]? = some (.inr (1, [some (some 73)])) := hf 72 _ (by decide) rfl
theorem sh_73 {P : GP} (hf : g_on P 166) : (g_sh P)[73]? = some (.inl (.int, 64, [])) := hf 73 _ (by decide) rfl
theorem sh_74 {P : GP} (hf : g_on P 166) : (g_sh P)[74]? = some (.inr (8, [some (some 75), some (some 78), some (some 81), some (some 82), some (some 83), some (some 84), some (some 85), some (some 86), none, some (some 87), none, none, none, none])) := hf 74 _ (by decide) rfl
theorem sh_75 {P : GP} (hf : g_on P 166) : (g_sh P)[75]? = some (.inr (4, [some (some 76), some (some 77), none])) := hf 75 _ (by decide) rfl
theorem sh_76 {P : GP} (hf : g_on P 166) : (g_sh P)[76]? = some (.inl (.byte, 48, [])) := hf 76 _ (by decide) rfl
theorem sh_77 {P : GP} (hf : g_on P 166) : (g_sh P)[77]? = some (.inl (.int, 8, [])) := hf 77 _ (by decide) rfl
theorem sh_78 {P : GP} (hf : g_on P 166) : (g_sh P)[78]? = some (.inr (4, [some (some 79), some (some 80), none])) := hf 78 _ (by decide) rfl
theorem sh_79 {P : GP} (hf : g_on P 166) : (g_sh P)[79]? = some (.inl (.byte, 48, [])) := hf 79 _ (by decide) rfl
theorem sh_80 {P : GP} (hf : g_on P 166) : (g_sh P)[80]? = some (.inl (.int, 8, [])) := hf 80 _ (by decide) rfl
theorem sh_81 {P : GP} (hf : g_on P 166) : (g_sh P)[81]? = some (.inl (.int, 5, [])) := hf 81 _ (by decide) rfl
theorem sh_82 {P : GP} (hf : g_on P 166) : (g_sh P)[82]? = some (.inl (.int, 40, [])) := hf 82 _ (by decide) rfl
theorem sh_83 {P : GP} (hf : g_on P 166) : (g_sh P)[83]? = some (.inl (.int, 40, [])) := hf 83 _ (by decide) rfl
theorem sh_84 {P : GP} (hf : g_on P 166) : (g_sh P)[84]? = some (.inl (.int, 8, [])) := hf 84 _ (by decide) rfl
theorem sh_85 {P : GP} (hf : g_on P 166) : (g_sh P)[85]? = some (.inl (.int, 8, [])) := hf 85 _ (by decide) rfl
theorem sh_86 {P : GP} (hf : g_on P 166) : (g_sh P)[86]? = some (.inl (.int, 8, [])) := hf 86 _ (by decide) rfl
theorem sh_87 {P : GP} (hf : g_on P 166) : (g_sh P)[87]? = some (.inr (1, [some (some 88)])) := hf 87 _ (by decide) rfl
theorem sh_88 {P : GP} (hf : g_on P 166) : (g_sh P)[88]? = some (.inl (.int, 64, [])) := hf 88 _ (by decide) rfl
theorem sh_89 {P : GP} (hf : g_on P 166) : (g_sh P)[89]? = some (.inr (8, [some (some 90), some (some 93), some (some 96), some (some 97), some (some 98), some (some 99), some (some 100), some (some 101), none, some (some 102), none, none, none, none])) := hf 89 _ (by decide) rfl
theorem sh_90 {P : GP} (hf : g_on P 166) : (g_sh P)[90]? = some (.inr (4, [some (some 91), some (some 92), none])) := hf 90 _ (by decide) rfl
theorem sh_91 {P : GP} (hf : g_on P 166) : (g_sh P)[91]? = some (.inl (.byte, 48, [])) := hf 91 _ (by decide) rfl
theorem sh_92 {P : GP} (hf : g_on P 166) : (g_sh P)[92]? = some (.inl (.int, 8, [])) := hf 92 _ (by decide) rfl
theorem sh_93 {P : GP} (hf : g_on P 166) : (g_sh P)[93]? = some (.inr (4, [some (some 94), some (some 95), none])) := hf 93 _ (by decide) rfl
theorem sh_94 {P : GP} (hf : g_on P 166) : (g_sh P)[94]? = some (.inl (.byte, 48, [])) := hf 94 _ (by decide) rfl
theorem sh_95 {P : GP} (hf : g_on P 166) : (g_sh P)[95]? = some (.inl (.int, 8, [])) := hf 95 _ (by decide) rfl
theorem sh_96 {P : GP} (hf : g_on P 166) : (g_sh P)[96]? = some (.inl (.int, 5, [])) := hf 96 _ (by decide) rfl
theorem sh_97 {P : GP} (hf : g_on P 166) : (g_sh P)[97]? = some (.inl (.int, 40, [])) := hf 97 _ (by decide) rfl
theorem sh_98 {P : GP} (hf : g_on P 166) : (g_sh P)[98]? = some (.inl (.int, 40, [])) := hf 98 _ (by decide) rfl
theorem sh_99 {P : GP} (hf : g_on P 166) : (g_sh P)[99]? = some (.inl (.int, 8, [])) := hf 99 _ (by decide) rfl
theorem sh_100 {P : GP} (hf : g_on P 166) : (g_sh P)[100]? = some (.inl (.int, 8, [])) := hf 100 _ (by decide) rfl
theorem sh_101 {P : GP} (hf : g_on P 166) : (g_sh P)[101]? = some (.inl (.int, 8, [])) := hf 101 _ (by decide) rfl
theorem sh_102 {P : GP} (hf : g_on P 166) : (g_sh P)[102]? = some (.inr (1, [some (some 103)])) := hf 102 _ (by decide) rfl
theorem sh_103 {P : GP} (hf : g_on P 166) : (g_sh P)[103]? = some (.inl (.int, 64, [])) := hf 103 _ (by decide) rfl
theorem sh_104 {P : GP} (hf : g_on P 166) : (g_sh P)[104]? = some (.inr (8, [some (some 105), some (some 108), some (some 111), some (some 112), some (some 113), some (some 114), some (some 115), some (some 116), none, some (some 117), none, none, none, none])) := hf 104 _ (by decide) rfl
theorem sh_105 {P : GP} (hf : g_on P 166) : (g_sh P)[105]? = some (.inr (4, [some (some 106), some (some 107), none])) := hf 105 _ (by decide) rfl
theorem sh_106 {P : GP} (hf : g_on P 166) : (g_sh P)[106]? = some (.inl (.byte, 48, [])) := hf 106 _ (by decide) rfl
theorem sh_107 {P : GP} (hf : g_on P 166) : (g_sh P)[107]? = some (.inl (.int, 8, [])) := hf 107 _ (by decide) rfl
theorem sh_108 {P : GP} (hf : g_on P 166) : (g_sh P)[108]? = some (.inr (4, [some (some 109), some (some 110), none])) := hf 108 _ (by decide) rfl
theorem sh_109 {P : GP} (hf : g_on P 166) : (g_sh P)[109]? = some (.inl (.byte, 48, [])) := hf 109 _ (by decide) rfl
theorem sh_110 {P : GP} (hf : g_on P 166) : (g_sh P)[110]? = some (.inl (.int, 8, [])) := hf 110 _ (by decide) rfl
theorem sh_111 {P : GP} (hf : g_on P 166) : (g_sh P)[111]? = some (.inl (.int, 5, [])) := hf 111 _ (by decide) rfl
theorem sh_112 {P : GP} (hf : g_on P 166) : (g_sh P)[112]? = some (.inl (.int, 40, [])) := hf 112 _ (by decide) rfl
theorem sh_113 {P : GP} (hf : g_on P 166) : (g_sh P)[113]? = some (.inl (.int, 40, [])) := hf 113 _ (by decide) rfl
theorem sh_114 {P : GP} (hf : g_on P 166) : (g_sh P)[114]? = some (.inl (.int, 8, [])) := hf 114 _ (by decide) rfl
theorem sh_115 {P : GP} (hf : g_on P 166) : (g_sh P)[115]? = some (.inl (.int, 8, [])) := hf 115 _ (by decide) rfl
theorem sh_116 {P : GP} (hf : g_on P 166) : (g_sh P)[116]? = some (.inl (.int, 8, [])) := hf 116 _ (by decide) rfl
theorem sh_117 {P : GP} (hf : g_on P 166) : (g_sh P)[117]? = some (.inr (1, [some (some 118)])) := hf 117 _ (by decide) rfl
theorem sh_118 {P : GP} (hf : g_on P 166) : (g_sh P)[118]? = some (.inl (.int, 64, [])) := hf 118 _ (by decide) rfl
theorem sh_119 {P : GP} (hf : g_on P 166) : (g_sh P)[119]? = some (.inr (8, [some (some 120), some (some 123), some (some 126), some (some 127), some (some 128), some (some 129), some (some 130), some (some 131), none, some (some 132), none, none, none, none])) := hf 119 _ (by decide) rfl
theorem sh_120 {P : GP} (hf : g_on P 166) : (g_sh P)[120]? = some (.inr (4, [some (some 121), some (some 122), none])) := hf 120 _ (by decide) rfl
theorem sh_121 {P : GP} (hf : g_on P 166) : (g_sh P)[121]? = some (.inl (.byte, 48, [])) := hf 121 _ (by decide) rfl
theorem sh_122 {P : GP} (hf : g_on P 166) : (g_sh P)[122]? = some (.inl (.int, 8, [])) := hf 122 _ (by decide) rfl
theorem sh_123 {P : GP} (hf : g_on P 166) : (g_sh P)[123]? = some (.inr (4, [some (some 124), some (some 125), none])) := hf 123 _ (by decide) rfl
theorem sh_124 {P : GP} (hf : g_on P 166) : (g_sh P)[124]? = some (.inl (.byte, 48, [])) := hf 124 _ (by decide) rfl
theorem sh_125 {P : GP} (hf : g_on P 166) : (g_sh P)[125]? = some (.inl (.int, 8, [])) := hf 125 _ (by decide) rfl
theorem sh_126 {P : GP} (hf : g_on P 166) : (g_sh P)[126]? = some (.inl (.int, 5, [])) := hf 126 _ (by decide) rfl
theorem sh_127 {P : GP} (hf : g_on P 166) : (g_sh P)[127]? = some (.inl (.int, 40, [])) := hf 127 _ (by decide) rfl
theorem sh_128 {P : GP} (hf : g_on P 166) : (g_sh P)[128]? = some (.inl (.int, 40, [])) := hf 128 _ (by decide) rfl
theorem sh_129 {P : GP} (hf : g_on P 166) : (g_sh P)[129]? = some (.inl (.int, 8, [])) := hf 129 _ (by decide) rfl
theorem sh_130 {P : GP} (hf : g_on P 166) : (g_sh P)[130]? = some (.inl (.int, 8, [])) := hf 130 _ (by decide) rfl
theorem sh_131 {P : GP} (hf : g_on P 166) : (g_sh P)[131]? = some (.inl (.int, 8, [])) := hf 131 _ (by decide) rfl
theorem sh_132 {P : GP} (hf : g_on P 166) : (g_sh P)[132]? = some (.inr (1, [some (some 133)])) := hf 132 _ (by decide) rfl
theorem sh_133 {P : GP} (hf : g_on P 166) : (g_sh P)[133]? = some (.inl (.int, 64, [])) := hf 133 _ (by decide) rfl
theorem sh_134 {P : GP} (hf : g_on P 166) : (g_sh P)[134]? = some (.inl (.object "PastureBanker$State", 2, [136, 151])) := hf 134 _ (by decide) rfl
theorem sh_135 {P : GP} (hf : g_on P 166) : (g_sh P)[135]? = some (.inl (.boolean, 2, [])) := hf 135 _ (by decide) rfl
theorem sh_136 {P : GP} (hf : g_on P 166) : (g_sh P)[136]? = some (.inr (8, [some (some 137), some (some 140), some (some 143), some (some 144), some (some 145), some (some 146), some (some 147), some (some 148), none, some (some 149), none, none, none, none])) := hf 136 _ (by decide) rfl
theorem sh_137 {P : GP} (hf : g_on P 166) : (g_sh P)[137]? = some (.inr (4, [some (some 138), some (some 139), none])) := hf 137 _ (by decide) rfl
theorem sh_138 {P : GP} (hf : g_on P 166) : (g_sh P)[138]? = some (.inl (.byte, 48, [])) := hf 138 _ (by decide) rfl
theorem sh_139 {P : GP} (hf : g_on P 166) : (g_sh P)[139]? = some (.inl (.int, 8, [])) := hf 139 _ (by decide) rfl
theorem sh_140 {P : GP} (hf : g_on P 166) : (g_sh P)[140]? = some (.inr (4, [some (some 141), some (some 142), none])) := hf 140 _ (by decide) rfl
theorem sh_141 {P : GP} (hf : g_on P 166) : (g_sh P)[141]? = some (.inl (.byte, 48, [])) := hf 141 _ (by decide) rfl
theorem sh_142 {P : GP} (hf : g_on P 166) : (g_sh P)[142]? = some (.inl (.int, 8, [])) := hf 142 _ (by decide) rfl
theorem sh_143 {P : GP} (hf : g_on P 166) : (g_sh P)[143]? = some (.inl (.int, 5, [])) := hf 143 _ (by decide) rfl
theorem sh_144 {P : GP} (hf : g_on P 166) : (g_sh P)[144]? = some (.inl (.int, 40, [])) := hf 144 _ (by decide) rfl
theorem sh_145 {P : GP} (hf : g_on P 166) : (g_sh P)[145]? = some (.inl (.int, 40, [])) := hf 145 _ (by decide) rfl
theorem sh_146 {P : GP} (hf : g_on P 166) : (g_sh P)[146]? = some (.inl (.int, 8, [])) := hf 146 _ (by decide) rfl
theorem sh_147 {P : GP} (hf : g_on P 166) : (g_sh P)[147]? = some (.inl (.int, 8, [])) := hf 147 _ (by decide) rfl
theorem sh_148 {P : GP} (hf : g_on P 166) : (g_sh P)[148]? = some (.inl (.int, 8, [])) := hf 148 _ (by decide) rfl
theorem sh_149 {P : GP} (hf : g_on P 166) : (g_sh P)[149]? = some (.inr (1, [some (some 150)])) := hf 149 _ (by decide) rfl
theorem sh_150 {P : GP} (hf : g_on P 166) : (g_sh P)[150]? = some (.inl (.int, 64, [])) := hf 150 _ (by decide) rfl
theorem sh_151 {P : GP} (hf : g_on P 166) : (g_sh P)[151]? = some (.inr (8, [some (some 152), some (some 155), some (some 158), some (some 159), some (some 160), some (some 161), some (some 162), some (some 163), none, some (some 164), none, none, none, none])) := hf 151 _ (by decide) rfl
theorem sh_152 {P : GP} (hf : g_on P 166) : (g_sh P)[152]? = some (.inr (4, [some (some 153), some (some 154), none])) := hf 152 _ (by decide) rfl
theorem sh_153 {P : GP} (hf : g_on P 166) : (g_sh P)[153]? = some (.inl (.byte, 48, [])) := hf 153 _ (by decide) rfl
theorem sh_154 {P : GP} (hf : g_on P 166) : (g_sh P)[154]? = some (.inl (.int, 8, [])) := hf 154 _ (by decide) rfl
theorem sh_155 {P : GP} (hf : g_on P 166) : (g_sh P)[155]? = some (.inr (4, [some (some 156), some (some 157), none])) := hf 155 _ (by decide) rfl
theorem sh_156 {P : GP} (hf : g_on P 166) : (g_sh P)[156]? = some (.inl (.byte, 48, [])) := hf 156 _ (by decide) rfl
theorem sh_157 {P : GP} (hf : g_on P 166) : (g_sh P)[157]? = some (.inl (.int, 8, [])) := hf 157 _ (by decide) rfl
theorem sh_158 {P : GP} (hf : g_on P 166) : (g_sh P)[158]? = some (.inl (.int, 5, [])) := hf 158 _ (by decide) rfl
theorem sh_159 {P : GP} (hf : g_on P 166) : (g_sh P)[159]? = some (.inl (.int, 40, [])) := hf 159 _ (by decide) rfl
theorem sh_160 {P : GP} (hf : g_on P 166) : (g_sh P)[160]? = some (.inl (.int, 40, [])) := hf 160 _ (by decide) rfl
theorem sh_161 {P : GP} (hf : g_on P 166) : (g_sh P)[161]? = some (.inl (.int, 8, [])) := hf 161 _ (by decide) rfl
theorem sh_162 {P : GP} (hf : g_on P 166) : (g_sh P)[162]? = some (.inl (.int, 8, [])) := hf 162 _ (by decide) rfl
theorem sh_163 {P : GP} (hf : g_on P 166) : (g_sh P)[163]? = some (.inl (.int, 8, [])) := hf 163 _ (by decide) rfl
theorem sh_164 {P : GP} (hf : g_on P 166) : (g_sh P)[164]? = some (.inr (1, [some (some 165)])) := hf 164 _ (by decide) rfl
theorem sh_165 {P : GP} (hf : g_on P 166) : (g_sh P)[165]? = some (.inl (.int, 64, [])) := hf 165 _ (by decide) rfl
theorem sh_166 {P : GP} (hf : g_on P 179) : (g_sh P)[166]? = some (.inr (10, [some (some 0), none, none, some (some 167), some (some 176), some (some 177), some (some 178), none, none, none])) := hf 166 _ (by decide) rfl
theorem sh_167 {P : GP} (hf : g_on P 179) : (g_sh P)[167]? = some (.inl (.array .int, 8, [168, 169, 170, 171, 172, 173, 174, 175])) := hf 167 _ (by decide) rfl
theorem sh_168 {P : GP} (hf : g_on P 179) : (g_sh P)[168]? = some (.inl (.int, 5, [])) := hf 168 _ (by decide) rfl
theorem sh_169 {P : GP} (hf : g_on P 179) : (g_sh P)[169]? = some (.inl (.int, 5, [])) := hf 169 _ (by decide) rfl
theorem sh_170 {P : GP} (hf : g_on P 179) : (g_sh P)[170]? = some (.inl (.int, 5, [])) := hf 170 _ (by decide) rfl
theorem sh_171 {P : GP} (hf : g_on P 179) : (g_sh P)[171]? = some (.inl (.int, 5, [])) := hf 171 _ (by decide) rfl
theorem sh_172 {P : GP} (hf : g_on P 179) : (g_sh P)[172]? = some (.inl (.int, 5, [])) := hf 172 _ (by decide) rfl
theorem sh_173 {P : GP} (hf : g_on P 179) : (g_sh P)[173]? = some (.inl (.int, 5, [])) := hf 173 _ (by decide) rfl
theorem sh_174 {P : GP} (hf : g_on P 179) : (g_sh P)[174]? = some (.inl (.int, 5, [])) := hf 174 _ (by decide) rfl
theorem sh_175 {P : GP} (hf : g_on P 179) : (g_sh P)[175]? = some (.inl (.int, 5, [])) := hf 175 _ (by decide) rfl
theorem sh_176 {P : GP} (hf : g_on P 179) : (g_sh P)[176]? = some (.inl (.int, 8, [])) := hf 176 _ (by decide) rfl
theorem sh_177 {P : GP} (hf : g_on P 179) : (g_sh P)[177]? = some (.inl (.int, 8, [])) := hf 177 _ (by decide) rfl
theorem sh_178 {P : GP} (hf : g_on P 179) : (g_sh P)[178]? = some (.inl (.int, 8, [])) := hf 178 _ (by decide) rfl
theorem sh_179 {P : GP} (hf : g_on P 180) : (g_sh P)[179]? = some (.inl (.boolean, 256, [])) := hf 179 _ (by decide) rfl
def g_N (P : GP) (n : Nat) : Prop := (g_sh P)[n]? = some (.inr (4, [some (some (n + 1)), some (some (n + 2)), none])) ∧ (g_sh P)[n + 1]? = some (.inl (.byte, 48, [])) ∧ (g_sh P)[n + 2]? = some (.inl (.int, 8, []))
def g_Db (P : GP) (n : Nat) : Prop := (g_sh P)[n]? = some (.inr (1, [some (some (n + 1))])) ∧ (g_sh P)[n + 1]? = some (.inl (.int, 64, []))
def g_S (P : GP) (o : Nat) : Prop := (g_sh P)[o]? = some (.inr (8, [some (some (o + 1)), some (some (o + 4)), some (some (o + 7)), some (some (o + 8)), some (some (o + 9)), some (some (o + 10)), some (some (o + 11)), some (some (o + 12)), none, some (some (o + 13)), none, none, none, none])) ∧ g_N P (o + 1) ∧ g_N P (o + 4) ∧ g_Db P (o + 13) ∧ (g_sh P)[o + 7]? = some (.inl (.int, 5, [])) ∧ (g_sh P)[o + 8]? = some (.inl (.int, 40, [])) ∧ (g_sh P)[o + 9]? = some (.inl (.int, 40, [])) ∧ (g_sh P)[o + 10]? = some (.inl (.int, 8, [])) ∧ (g_sh P)[o + 11]? = some (.inl (.int, 8, [])) ∧ (g_sh P)[o + 12]? = some (.inl (.int, 8, []))
theorem g_N_13 {P : GP} (hf : g_on P 166) : g_N P 13 := ⟨sh_13 hf, sh_14 hf, sh_15 hf⟩
theorem g_N_16 {P : GP} (hf : g_on P 166) : g_N P 16 := ⟨sh_16 hf, sh_17 hf, sh_18 hf⟩
theorem g_Db_25 {P : GP} (hf : g_on P 166) : g_Db P 25 := ⟨sh_25 hf, sh_26 hf⟩
theorem g_S_12 {P : GP} (hf : g_on P 166) : g_S P 12 := ⟨sh_12 hf, g_N_13 hf, g_N_16 hf, g_Db_25 hf, sh_19 hf, sh_20 hf, sh_21 hf, sh_22 hf, sh_23 hf, sh_24 hf⟩
theorem g_N_28 {P : GP} (hf : g_on P 166) : g_N P 28 := ⟨sh_28 hf, sh_29 hf, sh_30 hf⟩
theorem g_N_31 {P : GP} (hf : g_on P 166) : g_N P 31 := ⟨sh_31 hf, sh_32 hf, sh_33 hf⟩
theorem g_Db_40 {P : GP} (hf : g_on P 166) : g_Db P 40 := ⟨sh_40 hf, sh_41 hf⟩
theorem g_S_27 {P : GP} (hf : g_on P 166) : g_S P 27 := ⟨sh_27 hf, g_N_28 hf, g_N_31 hf, g_Db_40 hf, sh_34 hf, sh_35 hf, sh_36 hf, sh_37 hf, sh_38 hf, sh_39 hf⟩
theorem g_N_45 {P : GP} (hf : g_on P 166) : g_N P 45 := ⟨sh_45 hf, sh_46 hf, sh_47 hf⟩
theorem g_N_48 {P : GP} (hf : g_on P 166) : g_N P 48 := ⟨sh_48 hf, sh_49 hf, sh_50 hf⟩
theorem g_Db_57 {P : GP} (hf : g_on P 166) : g_Db P 57 := ⟨sh_57 hf, sh_58 hf⟩
theorem g_S_44 {P : GP} (hf : g_on P 166) : g_S P 44 := ⟨sh_44 hf, g_N_45 hf, g_N_48 hf, g_Db_57 hf, sh_51 hf, sh_52 hf, sh_53 hf, sh_54 hf, sh_55 hf, sh_56 hf⟩
theorem g_N_60 {P : GP} (hf : g_on P 166) : g_N P 60 := ⟨sh_60 hf, sh_61 hf, sh_62 hf⟩
theorem g_N_63 {P : GP} (hf : g_on P 166) : g_N P 63 := ⟨sh_63 hf, sh_64 hf, sh_65 hf⟩
theorem g_Db_72 {P : GP} (hf : g_on P 166) : g_Db P 72 := ⟨sh_72 hf, sh_73 hf⟩
theorem g_S_59 {P : GP} (hf : g_on P 166) : g_S P 59 := ⟨sh_59 hf, g_N_60 hf, g_N_63 hf, g_Db_72 hf, sh_66 hf, sh_67 hf, sh_68 hf, sh_69 hf, sh_70 hf, sh_71 hf⟩
theorem g_N_75 {P : GP} (hf : g_on P 166) : g_N P 75 := ⟨sh_75 hf, sh_76 hf, sh_77 hf⟩
theorem g_N_78 {P : GP} (hf : g_on P 166) : g_N P 78 := ⟨sh_78 hf, sh_79 hf, sh_80 hf⟩
theorem g_Db_87 {P : GP} (hf : g_on P 166) : g_Db P 87 := ⟨sh_87 hf, sh_88 hf⟩
theorem g_S_74 {P : GP} (hf : g_on P 166) : g_S P 74 := ⟨sh_74 hf, g_N_75 hf, g_N_78 hf, g_Db_87 hf, sh_81 hf, sh_82 hf, sh_83 hf, sh_84 hf, sh_85 hf, sh_86 hf⟩
theorem g_N_90 {P : GP} (hf : g_on P 166) : g_N P 90 := ⟨sh_90 hf, sh_91 hf, sh_92 hf⟩
theorem g_N_93 {P : GP} (hf : g_on P 166) : g_N P 93 := ⟨sh_93 hf, sh_94 hf, sh_95 hf⟩
theorem g_Db_102 {P : GP} (hf : g_on P 166) : g_Db P 102 := ⟨sh_102 hf, sh_103 hf⟩
theorem g_S_89 {P : GP} (hf : g_on P 166) : g_S P 89 := ⟨sh_89 hf, g_N_90 hf, g_N_93 hf, g_Db_102 hf, sh_96 hf, sh_97 hf, sh_98 hf, sh_99 hf, sh_100 hf, sh_101 hf⟩
theorem g_N_105 {P : GP} (hf : g_on P 166) : g_N P 105 := ⟨sh_105 hf, sh_106 hf, sh_107 hf⟩
theorem g_N_108 {P : GP} (hf : g_on P 166) : g_N P 108 := ⟨sh_108 hf, sh_109 hf, sh_110 hf⟩
theorem g_Db_117 {P : GP} (hf : g_on P 166) : g_Db P 117 := ⟨sh_117 hf, sh_118 hf⟩
theorem g_S_104 {P : GP} (hf : g_on P 166) : g_S P 104 := ⟨sh_104 hf, g_N_105 hf, g_N_108 hf, g_Db_117 hf, sh_111 hf, sh_112 hf, sh_113 hf, sh_114 hf, sh_115 hf, sh_116 hf⟩
theorem g_N_120 {P : GP} (hf : g_on P 166) : g_N P 120 := ⟨sh_120 hf, sh_121 hf, sh_122 hf⟩
theorem g_N_123 {P : GP} (hf : g_on P 166) : g_N P 123 := ⟨sh_123 hf, sh_124 hf, sh_125 hf⟩
theorem g_Db_132 {P : GP} (hf : g_on P 166) : g_Db P 132 := ⟨sh_132 hf, sh_133 hf⟩
theorem g_S_119 {P : GP} (hf : g_on P 166) : g_S P 119 := ⟨sh_119 hf, g_N_120 hf, g_N_123 hf, g_Db_132 hf, sh_126 hf, sh_127 hf, sh_128 hf, sh_129 hf, sh_130 hf, sh_131 hf⟩
theorem g_N_137 {P : GP} (hf : g_on P 166) : g_N P 137 := ⟨sh_137 hf, sh_138 hf, sh_139 hf⟩
theorem g_N_140 {P : GP} (hf : g_on P 166) : g_N P 140 := ⟨sh_140 hf, sh_141 hf, sh_142 hf⟩
theorem g_Db_149 {P : GP} (hf : g_on P 166) : g_Db P 149 := ⟨sh_149 hf, sh_150 hf⟩
theorem g_S_136 {P : GP} (hf : g_on P 166) : g_S P 136 := ⟨sh_136 hf, g_N_137 hf, g_N_140 hf, g_Db_149 hf, sh_143 hf, sh_144 hf, sh_145 hf, sh_146 hf, sh_147 hf, sh_148 hf⟩
theorem g_N_152 {P : GP} (hf : g_on P 166) : g_N P 152 := ⟨sh_152 hf, sh_153 hf, sh_154 hf⟩
theorem g_N_155 {P : GP} (hf : g_on P 166) : g_N P 155 := ⟨sh_155 hf, sh_156 hf, sh_157 hf⟩
theorem g_Db_164 {P : GP} (hf : g_on P 166) : g_Db P 164 := ⟨sh_164 hf, sh_165 hf⟩
theorem g_S_151 {P : GP} (hf : g_on P 166) : g_S P 151 := ⟨sh_151 hf, g_N_152 hf, g_N_155 hf, g_Db_164 hf, sh_158 hf, sh_159 hf, sh_160 hf, sh_161 hf, sh_162 hf, sh_163 hf⟩
theorem F_RX10_10 : g_F RX10 10 9 0 := ⟨(RX10, TX10, 10), rfl, by decide, g_w_mem (List.mem_of_getElem? (i := 439) (by decide +kernel)) (by decide +kernel)⟩
theorem F_RX10_20 : g_F RX10 20 9 1 := ⟨(RX10, TX10, 10), rfl, by decide, g_w_mem (List.mem_of_getElem? (i := 440) (by decide +kernel)) (by decide +kernel)⟩
theorem F_RX10_38 : g_F RX10 38 9 4 := ⟨(RX10, TX10, 10), rfl, by decide, g_w_mem (List.mem_of_getElem? (i := 443) (by decide +kernel)) (by decide +kernel)⟩
theorem F_RX10_45 : g_F RX10 45 9 5 := ⟨(RX10, TX10, 10), rfl, by decide, g_w_mem (List.mem_of_getElem? (i := 444) (by decide +kernel)) (by decide +kernel)⟩
theorem F_RX10_49 : g_F RX10 49 9 6 := ⟨(RX10, TX10, 10), rfl, by decide, g_w_mem (List.mem_of_getElem? (i := 445) (by decide +kernel)) (by decide +kernel)⟩
theorem F_RX10_55 : g_F RX10 55 9 7 := ⟨(RX10, TX10, 10), rfl, by decide, g_w_mem (List.mem_of_getElem? (i := 446) (by decide +kernel)) (by decide +kernel)⟩
theorem F_RX10_63 : g_F RX10 63 9 9 := ⟨(RX10, TX10, 10), rfl, by decide, g_w_mem (List.mem_of_getElem? (i := 448) (by decide +kernel)) (by decide +kernel)⟩
theorem F_RX10_79 : g_F RX10 79 3 1 := ⟨(RX4, TX4, 6), rfl, by decide, g_w_mem (List.mem_of_getElem? (i := 72) (by decide +kernel)) (by decide +kernel)⟩
theorem F_RX10_104 : g_F RX10 104 2 2 := ⟨(RX3, TX3, 3), rfl, by decide, g_w_mem (List.mem_of_getElem? (i := 274) (by decide +kernel)) (by decide +kernel)⟩
theorem F_RX10_107 : g_F RX10 107 8 1 := ⟨(RX9, TX9, 14), rfl, by decide, g_w_mem (List.mem_of_getElem? (i := 192) (by decide +kernel)) (by decide +kernel)⟩
theorem F_RX10_111 : g_F RX10 111 4 2 := ⟨(RX5, TX5, 3), rfl, by decide, g_w_mem (List.mem_of_getElem? (i := 165) (by decide +kernel)) (by decide +kernel)⟩
theorem F_RX10_120 : g_F RX10 120 8 0 := ⟨(RX9, TX9, 14), rfl, by decide, g_w_mem (List.mem_of_getElem? (i := 188) (by decide +kernel)) (by decide +kernel)⟩
theorem F_RX10_132 : g_F RX10 132 8 2 := ⟨(RX9, TX9, 14), rfl, by decide, g_w_mem (List.mem_of_getElem? (i := 197) (by decide +kernel)) (by decide +kernel)⟩
theorem F_RX10_144 : g_F RX10 144 8 3 := ⟨(RX9, TX9, 14), rfl, by decide, g_w_mem (List.mem_of_getElem? (i := 201) (by decide +kernel)) (by decide +kernel)⟩
theorem F_RX10_151 : g_F RX10 151 8 4 := ⟨(RX9, TX9, 14), rfl, by decide, g_w_mem (List.mem_of_getElem? (i := 205) (by decide +kernel)) (by decide +kernel)⟩
theorem F_RX10_207 : g_F RX10 207 8 8 := ⟨(RX9, TX9, 14), rfl, by decide, g_w_mem (List.mem_of_getElem? (i := 217) (by decide +kernel)) (by decide +kernel)⟩
theorem F_RX10_210 : g_F RX10 210 8 7 := ⟨(RX9, TX9, 14), rfl, by decide, g_w_mem (List.mem_of_getElem? (i := 214) (by decide +kernel)) (by decide +kernel)⟩
theorem F_RX10_217 : g_F RX10 217 8 5 := ⟨(RX9, TX9, 14), rfl, by decide, g_w_mem (List.mem_of_getElem? (i := 208) (by decide +kernel)) (by decide +kernel)⟩
theorem F_RX10_220 : g_F RX10 220 8 6 := ⟨(RX9, TX9, 14), rfl, by decide, g_w_mem (List.mem_of_getElem? (i := 211) (by decide +kernel)) (by decide +kernel)⟩
theorem F_RX10_242 : g_F RX10 242 8 9 := ⟨(RX9, TX9, 14), rfl, by decide, g_w_mem (List.mem_of_getElem? (i := 220) (by decide +kernel)) (by decide +kernel)⟩
theorem F_RX10_266 : g_F RX10 266 8 10 := ⟨(RX9, TX9, 14), rfl, by decide, g_w_mem (List.mem_of_getElem? (i := 223) (by decide +kernel)) (by decide +kernel)⟩
theorem F_RX10_269 : g_F RX10 269 8 11 := ⟨(RX9, TX9, 14), rfl, by decide, g_w_mem (List.mem_of_getElem? (i := 226) (by decide +kernel)) (by decide +kernel)⟩
theorem F_RX10_272 : g_F RX10 272 8 12 := ⟨(RX9, TX9, 14), rfl, by decide, g_w_mem (List.mem_of_getElem? (i := 229) (by decide +kernel)) (by decide +kernel)⟩
theorem F_RX10_275 : g_F RX10 275 8 13 := ⟨(RX9, TX9, 14), rfl, by decide, g_w_mem (List.mem_of_getElem? (i := 232) (by decide +kernel)) (by decide +kernel)⟩
theorem F_RX0_9 : g_F RX0 9 0 0 := ⟨(RX0, TX0, 2), rfl, by decide, g_w_mem (List.mem_of_getElem? (i := 141) (by decide +kernel)) (by decide +kernel)⟩
theorem F_RX0_15 : g_F RX0 15 0 1 := ⟨(RX0, TX0, 2), rfl, by decide, g_w_mem (List.mem_of_getElem? (i := 142) (by decide +kernel)) (by decide +kernel)⟩
theorem F_RX0_18 : g_F RX0 18 8 0 := ⟨(RX9, TX9, 14), rfl, by decide, g_w_mem (List.mem_of_getElem? (i := 185) (by decide +kernel)) (by decide +kernel)⟩
theorem F_RX0_24 : g_F RX0 24 4 2 := ⟨(RX5, TX5, 3), rfl, by decide, g_w_mem (List.mem_of_getElem? (i := 162) (by decide +kernel)) (by decide +kernel)⟩
theorem F_RX0_30 : g_F RX0 30 8 2 := ⟨(RX9, TX9, 14), rfl, by decide, g_w_mem (List.mem_of_getElem? (i := 195) (by decide +kernel)) (by decide +kernel)⟩
theorem F_RX0_33 : g_F RX0 33 8 1 := ⟨(RX9, TX9, 14), rfl, by decide, g_w_mem (List.mem_of_getElem? (i := 191) (by decide +kernel)) (by decide +kernel)⟩
theorem F_RX0_36 : g_F RX0 36 8 4 := ⟨(RX9, TX9, 14), rfl, by decide, g_w_mem (List.mem_of_getElem? (i := 203) (by decide +kernel)) (by decide +kernel)⟩
theorem F_RX0_39 : g_F RX0 39 8 3 := ⟨(RX9, TX9, 14), rfl, by decide, g_w_mem (List.mem_of_getElem? (i := 199) (by decide +kernel)) (by decide +kernel)⟩
theorem F_RX0_103 : g_F RX0 103 8 10 := ⟨(RX9, TX9, 14), rfl, by decide, g_w_mem (List.mem_of_getElem? (i := 222) (by decide +kernel)) (by decide +kernel)⟩
theorem F_RX0_110 : g_F RX0 110 8 12 := ⟨(RX9, TX9, 14), rfl, by decide, g_w_mem (List.mem_of_getElem? (i := 228) (by decide +kernel)) (by decide +kernel)⟩
theorem F_RX0_121 : g_F RX0 121 8 13 := ⟨(RX9, TX9, 14), rfl, by decide, g_w_mem (List.mem_of_getElem? (i := 231) (by decide +kernel)) (by decide +kernel)⟩
theorem F_RX0_124 : g_F RX0 124 8 11 := ⟨(RX9, TX9, 14), rfl, by decide, g_w_mem (List.mem_of_getElem? (i := 225) (by decide +kernel)) (by decide +kernel)⟩
theorem F_RX0_127 : g_F RX0 127 8 8 := ⟨(RX9, TX9, 14), rfl, by decide, g_w_mem (List.mem_of_getElem? (i := 216) (by decide +kernel)) (by decide +kernel)⟩
theorem F_RX0_130 : g_F RX0 130 8 7 := ⟨(RX9, TX9, 14), rfl, by decide, g_w_mem (List.mem_of_getElem? (i := 213) (by decide +kernel)) (by decide +kernel)⟩
theorem F_RX0_133 : g_F RX0 133 8 5 := ⟨(RX9, TX9, 14), rfl, by decide, g_w_mem (List.mem_of_getElem? (i := 207) (by decide +kernel)) (by decide +kernel)⟩
theorem F_RX0_136 : g_F RX0 136 8 6 := ⟨(RX9, TX9, 14), rfl, by decide, g_w_mem (List.mem_of_getElem? (i := 210) (by decide +kernel)) (by decide +kernel)⟩
theorem F_RX1_9 : g_F RX1 9 1 0 := ⟨(RX1, TX1, 1), rfl, by decide, g_w_mem (List.mem_of_getElem? (i := 180) (by decide +kernel)) (by decide +kernel)⟩
theorem F_RX2_9 : g_F RX2 9 8 1 := ⟨(RX9, TX9, 14), rfl, by decide, g_w_mem (List.mem_of_getElem? (i := 190) (by decide +kernel)) (by decide +kernel)⟩
theorem F_RX2_21 : g_F RX2 21 8 0 := ⟨(RX9, TX9, 14), rfl, by decide, g_w_mem (List.mem_of_getElem? (i := 186) (by decide +kernel)) (by decide +kernel)⟩
theorem F_RX2_41 : g_F RX2 41 8 4 := ⟨(RX9, TX9, 14), rfl, by decide, g_w_mem (List.mem_of_getElem? (i := 204) (by decide +kernel)) (by decide +kernel)⟩
theorem F_RX2_57 : g_F RX2 57 8 9 := ⟨(RX9, TX9, 14), rfl, by decide, g_w_mem (List.mem_of_getElem? (i := 219) (by decide +kernel)) (by decide +kernel)⟩
theorem F_RX3_11 : g_F RX3 11 2 0 := ⟨(RX3, TX3, 3), rfl, by decide, g_w_mem (List.mem_of_getElem? (i := 271) (by decide +kernel)) (by decide +kernel)⟩
theorem F_RX3_18 : g_F RX3 18 2 1 := ⟨(RX3, TX3, 3), rfl, by decide, g_w_mem (List.mem_of_getElem? (i := 272) (by decide +kernel)) (by decide +kernel)⟩
theorem F_RX3_26 : g_F RX3 26 2 2 := ⟨(RX3, TX3, 3), rfl, by decide, g_w_mem (List.mem_of_getElem? (i := 273) (by decide +kernel)) (by decide +kernel)⟩
theorem F_RX4_9 : g_F RX4 9 3 0 := ⟨(RX4, TX4, 6), rfl, by decide, g_w_mem (List.mem_of_getElem? (i := 70) (by decide +kernel)) (by decide +kernel)⟩
theorem F_RX4_29 : g_F RX4 29 3 1 := ⟨(RX4, TX4, 6), rfl, by decide, g_w_mem (List.mem_of_getElem? (i := 73) (by decide +kernel)) (by decide +kernel)⟩
theorem F_RX4_32 : g_F RX4 32 3 4 := ⟨(RX4, TX4, 6), rfl, by decide, g_w_mem (List.mem_of_getElem? (i := 78) (by decide +kernel)) (by decide +kernel)⟩
theorem F_RX4_38 : g_F RX4 38 3 3 := ⟨(RX4, TX4, 6), rfl, by decide, g_w_mem (List.mem_of_getElem? (i := 77) (by decide +kernel)) (by decide +kernel)⟩
theorem F_RX4_48 : g_F RX4 48 3 2 := ⟨(RX4, TX4, 6), rfl, by decide, g_w_mem (List.mem_of_getElem? (i := 74) (by decide +kernel)) (by decide +kernel)⟩
theorem F_RX4_51 : g_F RX4 51 3 5 := ⟨(RX4, TX4, 6), rfl, by decide, g_w_mem (List.mem_of_getElem? (i := 81) (by decide +kernel)) (by decide +kernel)⟩
theorem F_RX5_9 : g_F RX5 9 4 0 := ⟨(RX5, TX5, 3), rfl, by decide, g_w_mem (List.mem_of_getElem? (i := 160) (by decide +kernel)) (by decide +kernel)⟩
theorem F_RX5_15 : g_F RX5 15 4 1 := ⟨(RX5, TX5, 3), rfl, by decide, g_w_mem (List.mem_of_getElem? (i := 161) (by decide +kernel)) (by decide +kernel)⟩
theorem F_RX5_25 : g_F RX5 25 4 2 := ⟨(RX5, TX5, 3), rfl, by decide, g_w_mem (List.mem_of_getElem? (i := 163) (by decide +kernel)) (by decide +kernel)⟩
theorem F_RX7_12 : g_F RX7 12 6 0 := ⟨(RX7, TX7, 3), rfl, by decide, g_w_mem (List.mem_of_getElem? (i := 96) (by decide +kernel)) (by decide +kernel)⟩
theorem F_RX7_18 : g_F RX7 18 6 2 := ⟨(RX7, TX7, 3), rfl, by decide, g_w_mem (List.mem_of_getElem? (i := 99) (by decide +kernel)) (by decide +kernel)⟩
theorem F_RX7_22 : g_F RX7 22 6 1 := ⟨(RX7, TX7, 3), rfl, by decide, g_w_mem (List.mem_of_getElem? (i := 98) (by decide +kernel)) (by decide +kernel)⟩
theorem F_RX7_28 : g_F RX7 28 3 3 := ⟨(RX4, TX4, 6), rfl, by decide, g_w_mem (List.mem_of_getElem? (i := 76) (by decide +kernel)) (by decide +kernel)⟩
theorem F_RX7_66 : g_F RX7 66 8 0 := ⟨(RX9, TX9, 14), rfl, by decide, g_w_mem (List.mem_of_getElem? (i := 187) (by decide +kernel)) (by decide +kernel)⟩
theorem F_RX7_69 : g_F RX7 69 4 2 := ⟨(RX5, TX5, 3), rfl, by decide, g_w_mem (List.mem_of_getElem? (i := 166) (by decide +kernel)) (by decide +kernel)⟩
theorem F_RX7_81 : g_F RX7 81 8 2 := ⟨(RX9, TX9, 14), rfl, by decide, g_w_mem (List.mem_of_getElem? (i := 196) (by decide +kernel)) (by decide +kernel)⟩
theorem F_RX7_85 : g_F RX7 85 3 5 := ⟨(RX4, TX4, 6), rfl, by decide, g_w_mem (List.mem_of_getElem? (i := 80) (by decide +kernel)) (by decide +kernel)⟩
theorem F_RX7_94 : g_F RX7 94 3 2 := ⟨(RX4, TX4, 6), rfl, by decide, g_w_mem (List.mem_of_getElem? (i := 75) (by decide +kernel)) (by decide +kernel)⟩
theorem F_RX7_98 : g_F RX7 98 8 1 := ⟨(RX9, TX9, 14), rfl, by decide, g_w_mem (List.mem_of_getElem? (i := 193) (by decide +kernel)) (by decide +kernel)⟩
theorem F_RX7_100 : g_F RX7 100 8 3 := ⟨(RX9, TX9, 14), rfl, by decide, g_w_mem (List.mem_of_getElem? (i := 200) (by decide +kernel)) (by decide +kernel)⟩
theorem F_RX7_136 : g_F RX7 136 3 4 := ⟨(RX4, TX4, 6), rfl, by decide, g_w_mem (List.mem_of_getElem? (i := 79) (by decide +kernel)) (by decide +kernel)⟩
theorem F_RX7_139 : g_F RX7 139 3 0 := ⟨(RX4, TX4, 6), rfl, by decide, g_w_mem (List.mem_of_getElem? (i := 71) (by decide +kernel)) (by decide +kernel)⟩
theorem F_RX9_12 : g_F RX9 12 8 0 := ⟨(RX9, TX9, 14), rfl, by decide, g_w_mem (List.mem_of_getElem? (i := 184) (by decide +kernel)) (by decide +kernel)⟩
theorem F_RX9_18 : g_F RX9 18 8 1 := ⟨(RX9, TX9, 14), rfl, by decide, g_w_mem (List.mem_of_getElem? (i := 189) (by decide +kernel)) (by decide +kernel)⟩
theorem F_RX9_21 : g_F RX9 21 8 2 := ⟨(RX9, TX9, 14), rfl, by decide, g_w_mem (List.mem_of_getElem? (i := 194) (by decide +kernel)) (by decide +kernel)⟩
theorem F_RX9_25 : g_F RX9 25 8 3 := ⟨(RX9, TX9, 14), rfl, by decide, g_w_mem (List.mem_of_getElem? (i := 198) (by decide +kernel)) (by decide +kernel)⟩
theorem F_RX9_28 : g_F RX9 28 8 4 := ⟨(RX9, TX9, 14), rfl, by decide, g_w_mem (List.mem_of_getElem? (i := 202) (by decide +kernel)) (by decide +kernel)⟩
theorem F_RX9_31 : g_F RX9 31 8 5 := ⟨(RX9, TX9, 14), rfl, by decide, g_w_mem (List.mem_of_getElem? (i := 206) (by decide +kernel)) (by decide +kernel)⟩
theorem F_RX9_34 : g_F RX9 34 8 6 := ⟨(RX9, TX9, 14), rfl, by decide, g_w_mem (List.mem_of_getElem? (i := 209) (by decide +kernel)) (by decide +kernel)⟩
theorem F_RX9_37 : g_F RX9 37 8 7 := ⟨(RX9, TX9, 14), rfl, by decide, g_w_mem (List.mem_of_getElem? (i := 212) (by decide +kernel)) (by decide +kernel)⟩
theorem F_RX9_43 : g_F RX9 43 8 9 := ⟨(RX9, TX9, 14), rfl, by decide, g_w_mem (List.mem_of_getElem? (i := 218) (by decide +kernel)) (by decide +kernel)⟩
theorem F_RX9_57 : g_F RX9 57 8 8 := ⟨(RX9, TX9, 14), rfl, by decide, g_w_mem (List.mem_of_getElem? (i := 215) (by decide +kernel)) (by decide +kernel)⟩
theorem F_RX9_64 : g_F RX9 64 8 10 := ⟨(RX9, TX9, 14), rfl, by decide, g_w_mem (List.mem_of_getElem? (i := 221) (by decide +kernel)) (by decide +kernel)⟩
theorem F_RX9_67 : g_F RX9 67 8 11 := ⟨(RX9, TX9, 14), rfl, by decide, g_w_mem (List.mem_of_getElem? (i := 224) (by decide +kernel)) (by decide +kernel)⟩
theorem F_RX9_70 : g_F RX9 70 8 12 := ⟨(RX9, TX9, 14), rfl, by decide, g_w_mem (List.mem_of_getElem? (i := 227) (by decide +kernel)) (by decide +kernel)⟩
theorem F_RX9_73 : g_F RX9 73 8 13 := ⟨(RX9, TX9, 14), rfl, by decide, g_w_mem (List.mem_of_getElem? (i := 230) (by decide +kernel)) (by decide +kernel)⟩
theorem F_RX9_76 : g_F RX9 76 4 2 := ⟨(RX5, TX5, 3), rfl, by decide, g_w_mem (List.mem_of_getElem? (i := 164) (by decide +kernel)) (by decide +kernel)⟩
theorem F_RX11_9 : g_F RX11 9 10 3 := ⟨(RX11, TX11, 10), rfl, by decide, g_w_mem (List.mem_of_getElem? (i := 728) (by decide +kernel)) (by decide +kernel)⟩
theorem F_RX11_14 : g_F RX11 14 10 4 := ⟨(RX11, TX11, 10), rfl, by decide, g_w_mem (List.mem_of_getElem? (i := 730) (by decide +kernel)) (by decide +kernel)⟩
theorem F_RX11_18 : g_F RX11 18 10 5 := ⟨(RX11, TX11, 10), rfl, by decide, g_w_mem (List.mem_of_getElem? (i := 731) (by decide +kernel)) (by decide +kernel)⟩
theorem F_RX11_21 : g_F RX11 21 10 6 := ⟨(RX11, TX11, 10), rfl, by decide, g_w_mem (List.mem_of_getElem? (i := 732) (by decide +kernel)) (by decide +kernel)⟩
theorem F_RX11_24 : g_F RX11 24 10 0 := ⟨(RX11, TX11, 10), rfl, by decide, g_w_mem (List.mem_of_getElem? (i := 725) (by decide +kernel)) (by decide +kernel)⟩
theorem F_RX11_34 : g_F RX11 34 10 1 := ⟨(RX11, TX11, 10), rfl, by decide, g_w_mem (List.mem_of_getElem? (i := 726) (by decide +kernel)) (by decide +kernel)⟩
theorem F_RX11_41 : g_F RX11 41 10 2 := ⟨(RX11, TX11, 10), rfl, by decide, g_w_mem (List.mem_of_getElem? (i := 727) (by decide +kernel)) (by decide +kernel)⟩
theorem F_RX11_47 : g_F RX11 47 10 7 := ⟨(RX11, TX11, 10), rfl, by decide, g_w_mem (List.mem_of_getElem? (i := 733) (by decide +kernel)) (by decide +kernel)⟩
theorem F_RX11_53 : g_F RX11 53 10 8 := ⟨(RX11, TX11, 10), rfl, by decide, g_w_mem (List.mem_of_getElem? (i := 734) (by decide +kernel)) (by decide +kernel)⟩
theorem F_RX11_59 : g_F RX11 59 10 9 := ⟨(RX11, TX11, 10), rfl, by decide, g_w_mem (List.mem_of_getElem? (i := 735) (by decide +kernel)) (by decide +kernel)⟩
theorem FW_RX10_79 : g_FW RX10 79 3 1 := ⟨(RX4, TX4, 6), rfl, by decide, g_w_mem (List.mem_of_getElem? (i := 72) (by decide +kernel)) (by decide +kernel), rfl, by decide +kernel⟩
theorem FW_RX10_104 : g_FW RX10 104 2 2 := ⟨(RX3, TX3, 3), rfl, by decide, g_w_mem (List.mem_of_getElem? (i := 274) (by decide +kernel)) (by decide +kernel), rfl, by decide +kernel⟩
theorem FW_RX0_103 : g_FW RX0 103 8 10 := ⟨(RX9, TX9, 14), rfl, by decide, g_w_mem (List.mem_of_getElem? (i := 222) (by decide +kernel)) (by decide +kernel), rfl, by decide +kernel⟩
theorem FW_RX0_110 : g_FW RX0 110 8 12 := ⟨(RX9, TX9, 14), rfl, by decide, g_w_mem (List.mem_of_getElem? (i := 228) (by decide +kernel)) (by decide +kernel), rfl, by decide +kernel⟩
theorem FW_RX0_121 : g_FW RX0 121 8 13 := ⟨(RX9, TX9, 14), rfl, by decide, g_w_mem (List.mem_of_getElem? (i := 231) (by decide +kernel)) (by decide +kernel), rfl, by decide +kernel⟩
theorem FW_RX0_124 : g_FW RX0 124 8 11 := ⟨(RX9, TX9, 14), rfl, by decide, g_w_mem (List.mem_of_getElem? (i := 225) (by decide +kernel)) (by decide +kernel), rfl, by decide +kernel⟩
theorem FW_RX3_18 : g_FW RX3 18 2 1 := ⟨(RX3, TX3, 3), rfl, by decide, g_w_mem (List.mem_of_getElem? (i := 272) (by decide +kernel)) (by decide +kernel), rfl, by decide +kernel⟩
theorem FW_RX3_26 : g_FW RX3 26 2 2 := ⟨(RX3, TX3, 3), rfl, by decide, g_w_mem (List.mem_of_getElem? (i := 273) (by decide +kernel)) (by decide +kernel), rfl, by decide +kernel⟩
theorem FW_RX4_29 : g_FW RX4 29 3 1 := ⟨(RX4, TX4, 6), rfl, by decide, g_w_mem (List.mem_of_getElem? (i := 73) (by decide +kernel)) (by decide +kernel), rfl, by decide +kernel⟩
theorem FW_RX4_32 : g_FW RX4 32 3 4 := ⟨(RX4, TX4, 6), rfl, by decide, g_w_mem (List.mem_of_getElem? (i := 78) (by decide +kernel)) (by decide +kernel), rfl, by decide +kernel⟩
theorem FW_RX4_38 : g_FW RX4 38 3 3 := ⟨(RX4, TX4, 6), rfl, by decide, g_w_mem (List.mem_of_getElem? (i := 77) (by decide +kernel)) (by decide +kernel), rfl, by decide +kernel⟩
theorem FW_RX4_48 : g_FW RX4 48 3 2 := ⟨(RX4, TX4, 6), rfl, by decide, g_w_mem (List.mem_of_getElem? (i := 74) (by decide +kernel)) (by decide +kernel), rfl, by decide +kernel⟩
theorem FW_RX4_51 : g_FW RX4 51 3 5 := ⟨(RX4, TX4, 6), rfl, by decide, g_w_mem (List.mem_of_getElem? (i := 81) (by decide +kernel)) (by decide +kernel), rfl, by decide +kernel⟩
theorem FW_RX5_25 : g_FW RX5 25 4 2 := ⟨(RX5, TX5, 3), rfl, by decide, g_w_mem (List.mem_of_getElem? (i := 163) (by decide +kernel)) (by decide +kernel), rfl, by decide +kernel⟩
theorem FW_RX7_18 : g_FW RX7 18 6 2 := ⟨(RX7, TX7, 3), rfl, by decide, g_w_mem (List.mem_of_getElem? (i := 99) (by decide +kernel)) (by decide +kernel), rfl, by decide +kernel⟩
theorem FW_RX7_22 : g_FW RX7 22 6 1 := ⟨(RX7, TX7, 3), rfl, by decide, g_w_mem (List.mem_of_getElem? (i := 98) (by decide +kernel)) (by decide +kernel), rfl, by decide +kernel⟩
theorem FW_RX9_57 : g_FW RX9 57 8 8 := ⟨(RX9, TX9, 14), rfl, by decide, g_w_mem (List.mem_of_getElem? (i := 215) (by decide +kernel)) (by decide +kernel), rfl, by decide +kernel⟩
theorem FW_RX9_64 : g_FW RX9 64 8 10 := ⟨(RX9, TX9, 14), rfl, by decide, g_w_mem (List.mem_of_getElem? (i := 221) (by decide +kernel)) (by decide +kernel), rfl, by decide +kernel⟩
theorem FW_RX9_67 : g_FW RX9 67 8 11 := ⟨(RX9, TX9, 14), rfl, by decide, g_w_mem (List.mem_of_getElem? (i := 224) (by decide +kernel)) (by decide +kernel), rfl, by decide +kernel⟩
theorem FW_RX9_70 : g_FW RX9 70 8 12 := ⟨(RX9, TX9, 14), rfl, by decide, g_w_mem (List.mem_of_getElem? (i := 227) (by decide +kernel)) (by decide +kernel), rfl, by decide +kernel⟩
theorem FW_RX9_73 : g_FW RX9 73 8 13 := ⟨(RX9, TX9, 14), rfl, by decide, g_w_mem (List.mem_of_getElem? (i := 230) (by decide +kernel)) (by decide +kernel), rfl, by decide +kernel⟩
theorem FW_RX9_76 : g_FW RX9 76 4 2 := ⟨(RX5, TX5, 3), rfl, by decide, g_w_mem (List.mem_of_getElem? (i := 164) (by decide +kernel)) (by decide +kernel), rfl, by decide +kernel⟩
theorem FW_RX11_47 : g_FW RX11 47 10 7 := ⟨(RX11, TX11, 10), rfl, by decide, g_w_mem (List.mem_of_getElem? (i := 733) (by decide +kernel)) (by decide +kernel), rfl, by decide +kernel⟩
theorem FW_RX11_53 : g_FW RX11 53 10 8 := ⟨(RX11, TX11, 10), rfl, by decide, g_w_mem (List.mem_of_getElem? (i := 734) (by decide +kernel)) (by decide +kernel), rfl, by decide +kernel⟩
theorem FW_RX11_59 : g_FW RX11 59 10 9 := ⟨(RX11, TX11, 10), rfl, by decide, g_w_mem (List.mem_of_getElem? (i := 735) (by decide +kernel)) (by decide +kernel), rfl, by decide +kernel⟩
theorem CI_RL_7 : Cond.constant RL 7 2147483647 ∈ g_w := g_w_mem (List.mem_of_getElem? (i := 877) (by decide +kernel)) (by decide +kernel)
theorem CI_RL_56 : Cond.constant RL 56 16777216 ∈ g_w := g_w_mem (List.mem_of_getElem? (i := 1077) (by decide +kernel)) (by decide +kernel)
theorem CI_RL_93 : Cond.constant RL 93 65536 ∈ g_w := g_w_mem (List.mem_of_getElem? (i := 1154) (by decide +kernel)) (by decide +kernel)
theorem CI_RL_142 : Cond.constant RL 142 268435456 ∈ g_w := g_w_mem (List.mem_of_getElem? (i := 1228) (by decide +kernel)) (by decide +kernel)
theorem CI_RJ5_38 : Cond.constant RJ5 38 2147483631 ∈ g_w := g_w_mem (List.mem_of_getElem? (i := 914) (by decide +kernel)) (by decide +kernel)
theorem CI_RJ5_39 : Cond.constant RJ5 39 2147483647 ∈ g_w := g_w_mem (List.mem_of_getElem? (i := 915) (by decide +kernel)) (by decide +kernel)
theorem CI_RJ2_20 : Cond.constant RJ2 20 1073741823 ∈ g_w := g_w_mem (List.mem_of_getElem? (i := 923) (by decide +kernel)) (by decide +kernel)
theorem CI_RJ8_200 : Cond.constant RJ8 200 2147483639 ∈ g_w := g_w_mem (List.mem_of_getElem? (i := 955) (by decide +kernel)) (by decide +kernel)
theorem MY_L_word : g_MY yL_word cL_word 4 (some .int) 2 := ⟨g_w_mem (List.mem_of_getElem? (i := 889) (by decide +kernel)) (by decide +kernel), g_w_mem (List.mem_of_getElem? (i := 19) (by decide +kernel)) (by decide +kernel), by decide +kernel, by decide +kernel, by decide +kernel⟩
theorem MS_L_word : Cond.static yL_word ∈ g_w := g_w_mem (List.mem_of_getElem? (i := 888) (by decide +kernel)) (by decide +kernel)
theorem MY_X0_addAllocations : g_MY yX0_addAllocations cX0_addAllocations 5 none 2 := ⟨g_w_mem (List.mem_of_getElem? (i := 634) (by decide +kernel)) (by decide +kernel), g_w_mem (List.mem_of_getElem? (i := 25) (by decide +kernel)) (by decide +kernel), by decide +kernel, by decide +kernel, by decide +kernel⟩
theorem MI_X0_addAllocations : Cond.instanceMethod yX0_addAllocations ∈ g_w ∧ Cond.selects yX0_addAllocations.cls yX0_addAllocations yX0_addAllocations ∈ g_w := ⟨g_w_mem (List.mem_of_getElem? (i := 633) (by decide +kernel)) (by decide +kernel), g_w_mem (List.mem_of_getElem? (i := 16) (by decide +kernel)) (by decide +kernel)⟩
theorem MY_X0_allCanFinish : g_MY yX0_allCanFinish cX0_allCanFinish 5 (some .boolean) 1 := ⟨g_w_mem (List.mem_of_getElem? (i := 619) (by decide +kernel)) (by decide +kernel), g_w_mem (List.mem_of_getElem? (i := 25) (by decide +kernel)) (by decide +kernel), by decide +kernel, by decide +kernel, by decide +kernel⟩
theorem MI_X0_allCanFinish : Cond.instanceMethod yX0_allCanFinish ∈ g_w ∧ Cond.selects yX0_allCanFinish.cls yX0_allCanFinish yX0_allCanFinish ∈ g_w := ⟨g_w_mem (List.mem_of_getElem? (i := 617) (by decide +kernel)) (by decide +kernel), g_w_mem (List.mem_of_getElem? (i := 618) (by decide +kernel)) (by decide +kernel)⟩
theorem MY_X0_changeClaim : g_MY yX0_changeClaim cX0_changeClaim 5 (some .int) 4 := ⟨g_w_mem (List.mem_of_getElem? (i := 1184) (by decide +kernel)) (by decide +kernel), g_w_mem (List.mem_of_getElem? (i := 25) (by decide +kernel)) (by decide +kernel), by decide +kernel, by decide +kernel, by decide +kernel⟩
theorem MI_X0_changeClaim : Cond.instanceMethod yX0_changeClaim ∈ g_w ∧ Cond.selects yX0_changeClaim.cls yX0_changeClaim yX0_changeClaim ∈ g_w := ⟨g_w_mem (List.mem_of_getElem? (i := 1182) (by decide +kernel)) (by decide +kernel), g_w_mem (List.mem_of_getElem? (i := 1183) (by decide +kernel)) (by decide +kernel)⟩
theorem MY_X0_finishesWithFree : g_MY yX0_finishesWithFree cX0_finishesWithFree 5 (some .boolean) 2 := ⟨g_w_mem (List.mem_of_getElem? (i := 630) (by decide +kernel)) (by decide +kernel), g_w_mem (List.mem_of_getElem? (i := 25) (by decide +kernel)) (by decide +kernel), by decide +kernel, by decide +kernel, by decide +kernel⟩
theorem MI_X0_finishesWithFree : Cond.instanceMethod yX0_finishesWithFree ∈ g_w ∧ Cond.selects yX0_finishesWithFree.cls yX0_finishesWithFree yX0_finishesWithFree ∈ g_w := ⟨g_w_mem (List.mem_of_getElem? (i := 629) (by decide +kernel)) (by decide +kernel), g_w_mem (List.mem_of_getElem? (i := 15) (by decide +kernel)) (by decide +kernel)⟩
theorem MY_X0_grantOrQueue : g_MY yX0_grantOrQueue cX0_grantOrQueue 5 (some .boolean) 4 := ⟨g_w_mem (List.mem_of_getElem? (i := 669) (by decide +kernel)) (by decide +kernel), g_w_mem (List.mem_of_getElem? (i := 25) (by decide +kernel)) (by decide +kernel), by decide +kernel, by decide +kernel, by decide +kernel⟩
theorem MI_X0_grantOrQueue : Cond.instanceMethod yX0_grantOrQueue ∈ g_w ∧ Cond.selects yX0_grantOrQueue.cls yX0_grantOrQueue yX0_grantOrQueue ∈ g_w := ⟨g_w_mem (List.mem_of_getElem? (i := 667) (by decide +kernel)) (by decide +kernel), g_w_mem (List.mem_of_getElem? (i := 668) (by decide +kernel)) (by decide +kernel)⟩
theorem MY_X0_isGrantable : g_MY yX0_isGrantable cX0_isGrantable 7 (some .boolean) 4 := ⟨g_w_mem (List.mem_of_getElem? (i := 673) (by decide +kernel)) (by decide +kernel), g_w_mem (List.mem_of_getElem? (i := 25) (by decide +kernel)) (by decide +kernel), by decide +kernel, by decide +kernel, by decide +kernel⟩
theorem MI_X0_isGrantable : Cond.instanceMethod yX0_isGrantable ∈ g_w ∧ Cond.selects yX0_isGrantable.cls yX0_isGrantable yX0_isGrantable ∈ g_w := ⟨g_w_mem (List.mem_of_getElem? (i := 672) (by decide +kernel)) (by decide +kernel), g_w_mem (List.mem_of_getElem? (i := 17) (by decide +kernel)) (by decide +kernel)⟩
theorem MY_X0_resize : g_MY yX0_resize cX0_resize 4 (some .int) 3 := ⟨g_w_mem (List.mem_of_getElem? (i := 1166) (by decide +kernel)) (by decide +kernel), g_w_mem (List.mem_of_getElem? (i := 25) (by decide +kernel)) (by decide +kernel), by decide +kernel, by decide +kernel, by decide +kernel⟩
theorem MI_X0_resize : Cond.instanceMethod yX0_resize ∈ g_w ∧ Cond.selects yX0_resize.cls yX0_resize yX0_resize ∈ g_w := ⟨g_w_mem (List.mem_of_getElem? (i := 1164) (by decide +kernel)) (by decide +kernel), g_w_mem (List.mem_of_getElem? (i := 1165) (by decide +kernel)) (by decide +kernel)⟩
theorem MY_X0_serveQueue : g_MY yX0_serveQueue cX0_serveQueue 10 (some .int) 1 := ⟨g_w_mem (List.mem_of_getElem? (i := 695) (by decide +kernel)) (by decide +kernel), g_w_mem (List.mem_of_getElem? (i := 25) (by decide +kernel)) (by decide +kernel), by decide +kernel, by decide +kernel, by decide +kernel⟩
theorem MI_X0_serveQueue : Cond.instanceMethod yX0_serveQueue ∈ g_w ∧ Cond.selects yX0_serveQueue.cls yX0_serveQueue yX0_serveQueue ∈ g_w := ⟨g_w_mem (List.mem_of_getElem? (i := 694) (by decide +kernel)) (by decide +kernel), g_w_mem (List.mem_of_getElem? (i := 18) (by decide +kernel)) (by decide +kernel)⟩
theorem MY_X0_startWithAvailable : g_MY yX0_startWithAvailable cX0_startWithAvailable 5 none 1 := ⟨g_w_mem (List.mem_of_getElem? (i := 623) (by decide +kernel)) (by decide +kernel), g_w_mem (List.mem_of_getElem? (i := 25) (by decide +kernel)) (by decide +kernel), by decide +kernel, by decide +kernel, by decide +kernel⟩
theorem MI_X0_startWithAvailable : Cond.instanceMethod yX0_startWithAvailable ∈ g_w ∧ Cond.selects yX0_startWithAvailable.cls yX0_startWithAvailable yX0_startWithAvailable ∈ g_w := ⟨g_w_mem (List.mem_of_getElem? (i := 622) (by decide +kernel)) (by decide +kernel), g_w_mem (List.mem_of_getElem? (i := 14) (by decide +kernel)) (by decide +kernel)⟩
theorem MY_X0_takeBack : g_MY yX0_takeBack cX0_takeBack 5 (some .int) 4 := ⟨g_w_mem (List.mem_of_getElem? (i := 691) (by decide +kernel)) (by decide +kernel), g_w_mem (List.mem_of_getElem? (i := 25) (by decide +kernel)) (by decide +kernel), by decide +kernel, by decide +kernel, by decide +kernel⟩
theorem MI_X0_takeBack : Cond.instanceMethod yX0_takeBack ∈ g_w ∧ Cond.selects yX0_takeBack.cls yX0_takeBack yX0_takeBack ∈ g_w := ⟨g_w_mem (List.mem_of_getElem? (i := 689) (by decide +kernel)) (by decide +kernel), g_w_mem (List.mem_of_getElem? (i := 690) (by decide +kernel)) (by decide +kernel)⟩
theorem MY_X0_takeBackAll : g_MY yX0_takeBackAll cX0_takeBackAll 4 (some .int) 2 := ⟨g_w_mem (List.mem_of_getElem? (i := 707) (by decide +kernel)) (by decide +kernel), g_w_mem (List.mem_of_getElem? (i := 25) (by decide +kernel)) (by decide +kernel), by decide +kernel, by decide +kernel, by decide +kernel⟩
theorem MI_X0_takeBackAll : Cond.instanceMethod yX0_takeBackAll ∈ g_w ∧ Cond.selects yX0_takeBackAll.cls yX0_takeBackAll yX0_takeBackAll ∈ g_w := ⟨g_w_mem (List.mem_of_getElem? (i := 705) (by decide +kernel)) (by decide +kernel), g_w_mem (List.mem_of_getElem? (i := 706) (by decide +kernel)) (by decide +kernel)⟩
theorem MY_X0_withdrawRequest : g_MY yX0_withdrawRequest cX0_withdrawRequest 3 (some .int) 2 := ⟨g_w_mem (List.mem_of_getElem? (i := 1151) (by decide +kernel)) (by decide +kernel), g_w_mem (List.mem_of_getElem? (i := 25) (by decide +kernel)) (by decide +kernel), by decide +kernel, by decide +kernel, by decide +kernel⟩
theorem MI_X0_withdrawRequest : Cond.instanceMethod yX0_withdrawRequest ∈ g_w ∧ Cond.selects yX0_withdrawRequest.cls yX0_withdrawRequest yX0_withdrawRequest ∈ g_w := ⟨g_w_mem (List.mem_of_getElem? (i := 1149) (by decide +kernel)) (by decide +kernel), g_w_mem (List.mem_of_getElem? (i := 1150) (by decide +kernel)) (by decide +kernel)⟩
theorem MY_X10_allocation : g_MY yX10_allocation cX10_allocation 3 (some .int) 2 := ⟨g_w_mem (List.mem_of_getElem? (i := 559) (by decide +kernel)) (by decide +kernel), g_w_mem (List.mem_of_getElem? (i := 20) (by decide +kernel)) (by decide +kernel), by decide +kernel, by decide +kernel, by decide +kernel⟩
theorem MI_X10_allocation : Cond.instanceMethod yX10_allocation ∈ g_w ∧ Cond.selects yX10_allocation.cls yX10_allocation yX10_allocation ∈ g_w := ⟨g_w_mem (List.mem_of_getElem? (i := 557) (by decide +kernel)) (by decide +kernel), g_w_mem (List.mem_of_getElem? (i := 558) (by decide +kernel)) (by decide +kernel)⟩
theorem MY_X10_append : g_MY yX10_append cX10_append 6 (some .int) 5 := ⟨g_w_mem (List.mem_of_getElem? (i := 894) (by decide +kernel)) (by decide +kernel), g_w_mem (List.mem_of_getElem? (i := 20) (by decide +kernel)) (by decide +kernel), by decide +kernel, by decide +kernel, by decide +kernel⟩
theorem MI_X10_append : Cond.instanceMethod yX10_append ∈ g_w ∧ Cond.selects yX10_append.cls yX10_append yX10_append ∈ g_w := ⟨g_w_mem (List.mem_of_getElem? (i := 892) (by decide +kernel)) (by decide +kernel), g_w_mem (List.mem_of_getElem? (i := 893) (by decide +kernel)) (by decide +kernel)⟩
theorem MY_X10_available : g_MY yX10_available cX10_available 2 (some .int) 1 := ⟨g_w_mem (List.mem_of_getElem? (i := 839) (by decide +kernel)) (by decide +kernel), g_w_mem (List.mem_of_getElem? (i := 20) (by decide +kernel)) (by decide +kernel), by decide +kernel, by decide +kernel, by decide +kernel⟩
theorem MI_X10_available : Cond.instanceMethod yX10_available ∈ g_w ∧ Cond.selects yX10_available.cls yX10_available yX10_available ∈ g_w := ⟨g_w_mem (List.mem_of_getElem? (i := 837) (by decide +kernel)) (by decide +kernel), g_w_mem (List.mem_of_getElem? (i := 838) (by decide +kernel)) (by decide +kernel)⟩
theorem MY_X10_cancel : g_MY yX10_cancel cX10_cancel 2 (some .int) 1 := ⟨g_w_mem (List.mem_of_getElem? (i := 1144) (by decide +kernel)) (by decide +kernel), g_w_mem (List.mem_of_getElem? (i := 20) (by decide +kernel)) (by decide +kernel), by decide +kernel, by decide +kernel, by decide +kernel⟩
theorem MI_X10_cancel : Cond.instanceMethod yX10_cancel ∈ g_w ∧ Cond.selects yX10_cancel.cls yX10_cancel yX10_cancel ∈ g_w := ⟨g_w_mem (List.mem_of_getElem? (i := 1142) (by decide +kernel)) (by decide +kernel), g_w_mem (List.mem_of_getElem? (i := 1143) (by decide +kernel)) (by decide +kernel)⟩
theorem MY_X10_capacity : g_MY yX10_capacity cX10_capacity 2 (some .int) 1 := ⟨g_w_mem (List.mem_of_getElem? (i := 801) (by decide +kernel)) (by decide +kernel), g_w_mem (List.mem_of_getElem? (i := 20) (by decide +kernel)) (by decide +kernel), by decide +kernel, by decide +kernel, by decide +kernel⟩
theorem MI_X10_capacity : Cond.instanceMethod yX10_capacity ∈ g_w ∧ Cond.selects yX10_capacity.cls yX10_capacity yX10_capacity ∈ g_w := ⟨g_w_mem (List.mem_of_getElem? (i := 799) (by decide +kernel)) (by decide +kernel), g_w_mem (List.mem_of_getElem? (i := 800) (by decide +kernel)) (by decide +kernel)⟩
theorem MY_X10_closedCycleLength : g_MY yX10_closedCycleLength cX10_closedCycleLength 3 (some .int) 2 := ⟨g_w_mem (List.mem_of_getElem? (i := 1188) (by decide +kernel)) (by decide +kernel), g_w_mem (List.mem_of_getElem? (i := 20) (by decide +kernel)) (by decide +kernel), by decide +kernel, by decide +kernel, by decide +kernel⟩
theorem MI_X10_closedCycleLength : Cond.instanceMethod yX10_closedCycleLength ∈ g_w ∧ Cond.selects yX10_closedCycleLength.cls yX10_closedCycleLength yX10_closedCycleLength ∈ g_w := ⟨g_w_mem (List.mem_of_getElem? (i := 1186) (by decide +kernel)) (by decide +kernel), g_w_mem (List.mem_of_getElem? (i := 1187) (by decide +kernel)) (by decide +kernel)⟩
theorem MY_X10_debt : g_MY yX10_debt cX10_debt 3 (some .int) 2 := ⟨g_w_mem (List.mem_of_getElem? (i := 1203) (by decide +kernel)) (by decide +kernel), g_w_mem (List.mem_of_getElem? (i := 20) (by decide +kernel)) (by decide +kernel), by decide +kernel, by decide +kernel, by decide +kernel⟩
theorem MI_X10_debt : Cond.instanceMethod yX10_debt ∈ g_w ∧ Cond.selects yX10_debt.cls yX10_debt yX10_debt ∈ g_w := ⟨g_w_mem (List.mem_of_getElem? (i := 1201) (by decide +kernel)) (by decide +kernel), g_w_mem (List.mem_of_getElem? (i := 1202) (by decide +kernel)) (by decide +kernel)⟩
theorem MY_X10_finish : g_MY yX10_finish cX10_finish 2 (some .int) 1 := ⟨g_w_mem (List.mem_of_getElem? (i := 703) (by decide +kernel)) (by decide +kernel), g_w_mem (List.mem_of_getElem? (i := 20) (by decide +kernel)) (by decide +kernel), by decide +kernel, by decide +kernel, by decide +kernel⟩
theorem MI_X10_finish : Cond.instanceMethod yX10_finish ∈ g_w ∧ Cond.selects yX10_finish.cls yX10_finish yX10_finish ∈ g_w := ⟨g_w_mem (List.mem_of_getElem? (i := 701) (by decide +kernel)) (by decide +kernel), g_w_mem (List.mem_of_getElem? (i := 702) (by decide +kernel)) (by decide +kernel)⟩
theorem MY_X10_herdCount : g_MY yX10_herdCount cX10_herdCount 1 (some .int) 0 := ⟨g_w_mem (List.mem_of_getElem? (i := 720) (by decide +kernel)) (by decide +kernel), g_w_mem (List.mem_of_getElem? (i := 20) (by decide +kernel)) (by decide +kernel), by decide +kernel, by decide +kernel, by decide +kernel⟩
theorem MI_X10_herdCount : Cond.instanceMethod yX10_herdCount ∈ g_w ∧ Cond.selects yX10_herdCount.cls yX10_herdCount yX10_herdCount ∈ g_w := ⟨g_w_mem (List.mem_of_getElem? (i := 718) (by decide +kernel)) (by decide +kernel), g_w_mem (List.mem_of_getElem? (i := 719) (by decide +kernel)) (by decide +kernel)⟩
theorem MY_X10_immediateGrants : g_MY yX10_immediateGrants cX10_immediateGrants 1 (some .int) 0 := ⟨g_w_mem (List.mem_of_getElem? (i := 768) (by decide +kernel)) (by decide +kernel), g_w_mem (List.mem_of_getElem? (i := 20) (by decide +kernel)) (by decide +kernel), by decide +kernel, by decide +kernel, by decide +kernel⟩
theorem MI_X10_immediateGrants : Cond.instanceMethod yX10_immediateGrants ∈ g_w ∧ Cond.selects yX10_immediateGrants.cls yX10_immediateGrants yX10_immediateGrants ∈ g_w := ⟨g_w_mem (List.mem_of_getElem? (i := 766) (by decide +kernel)) (by decide +kernel), g_w_mem (List.mem_of_getElem? (i := 767) (by decide +kernel)) (by decide +kernel)⟩
theorem MY_X10_inconsistencies : g_MY yX10_inconsistencies cX10_inconsistencies 1 (some .int) 0 := ⟨g_w_mem (List.mem_of_getElem? (i := 851) (by decide +kernel)) (by decide +kernel), g_w_mem (List.mem_of_getElem? (i := 20) (by decide +kernel)) (by decide +kernel), by decide +kernel, by decide +kernel, by decide +kernel⟩
theorem MI_X10_inconsistencies : Cond.instanceMethod yX10_inconsistencies ∈ g_w ∧ Cond.selects yX10_inconsistencies.cls yX10_inconsistencies yX10_inconsistencies ∈ g_w := ⟨g_w_mem (List.mem_of_getElem? (i := 849) (by decide +kernel)) (by decide +kernel), g_w_mem (List.mem_of_getElem? (i := 850) (by decide +kernel)) (by decide +kernel)⟩
theorem MY_X10_isIn : g_MY yX10_isIn cX10_isIn 2 (some .boolean) 2 := ⟨g_w_mem (List.mem_of_getElem? (i := 626) (by decide +kernel)) (by decide +kernel), g_w_mem (List.mem_of_getElem? (i := 20) (by decide +kernel)) (by decide +kernel), by decide +kernel, by decide +kernel, by decide +kernel⟩
theorem MS_X10_isIn : Cond.static yX10_isIn ∈ g_w := g_w_mem (List.mem_of_getElem? (i := 625) (by decide +kernel)) (by decide +kernel)
theorem MY_X10_isSafe : g_MY yX10_isSafe cX10_isSafe 1 (some .boolean) 0 := ⟨g_w_mem (List.mem_of_getElem? (i := 615) (by decide +kernel)) (by decide +kernel), g_w_mem (List.mem_of_getElem? (i := 20) (by decide +kernel)) (by decide +kernel), by decide +kernel, by decide +kernel, by decide +kernel⟩
theorem MI_X10_isSafe : Cond.instanceMethod yX10_isSafe ∈ g_w ∧ Cond.selects yX10_isSafe.cls yX10_isSafe yX10_isSafe ∈ g_w := ⟨g_w_mem (List.mem_of_getElem? (i := 613) (by decide +kernel)) (by decide +kernel), g_w_mem (List.mem_of_getElem? (i := 614) (by decide +kernel)) (by decide +kernel)⟩
theorem MY_X10_isWaiting : g_MY yX10_isWaiting cX10_isWaiting 2 (some .boolean) 1 := ⟨g_w_mem (List.mem_of_getElem? (i := 638) (by decide +kernel)) (by decide +kernel), g_w_mem (List.mem_of_getElem? (i := 20) (by decide +kernel)) (by decide +kernel), by decide +kernel, by decide +kernel, by decide +kernel⟩
theorem MI_X10_isWaiting : Cond.instanceMethod yX10_isWaiting ∈ g_w ∧ Cond.selects yX10_isWaiting.cls yX10_isWaiting yX10_isWaiting ∈ g_w := ⟨g_w_mem (List.mem_of_getElem? (i := 636) (by decide +kernel)) (by decide +kernel), g_w_mem (List.mem_of_getElem? (i := 637) (by decide +kernel)) (by decide +kernel)⟩
theorem MY_X10_lend : g_MY yX10_lend cX10_lend 4 (some .int) 3 := ⟨g_w_mem (List.mem_of_getElem? (i := 1208) (by decide +kernel)) (by decide +kernel), g_w_mem (List.mem_of_getElem? (i := 20) (by decide +kernel)) (by decide +kernel), by decide +kernel, by decide +kernel, by decide +kernel⟩
theorem MI_X10_lend : Cond.instanceMethod yX10_lend ∈ g_w ∧ Cond.selects yX10_lend.cls yX10_lend yX10_lend ∈ g_w := ⟨g_w_mem (List.mem_of_getElem? (i := 1206) (by decide +kernel)) (by decide +kernel), g_w_mem (List.mem_of_getElem? (i := 1207) (by decide +kernel)) (by decide +kernel)⟩
theorem MY_X10_maximum : g_MY yX10_maximum cX10_maximum 3 (some .int) 2 := ⟨g_w_mem (List.mem_of_getElem? (i := 816) (by decide +kernel)) (by decide +kernel), g_w_mem (List.mem_of_getElem? (i := 20) (by decide +kernel)) (by decide +kernel), by decide +kernel, by decide +kernel, by decide +kernel⟩
theorem MI_X10_maximum : Cond.instanceMethod yX10_maximum ∈ g_w ∧ Cond.selects yX10_maximum.cls yX10_maximum yX10_maximum ∈ g_w := ⟨g_w_mem (List.mem_of_getElem? (i := 814) (by decide +kernel)) (by decide +kernel), g_w_mem (List.mem_of_getElem? (i := 815) (by decide +kernel)) (by decide +kernel)⟩
theorem MY_X10_need : g_MY yX10_need cX10_need 3 (some .int) 2 := ⟨g_w_mem (List.mem_of_getElem? (i := 607) (by decide +kernel)) (by decide +kernel), g_w_mem (List.mem_of_getElem? (i := 20) (by decide +kernel)) (by decide +kernel), by decide +kernel, by decide +kernel, by decide +kernel⟩
theorem MI_X10_need : Cond.instanceMethod yX10_need ∈ g_w ∧ Cond.selects yX10_need.cls yX10_need yX10_need ∈ g_w := ⟨g_w_mem (List.mem_of_getElem? (i := 605) (by decide +kernel)) (by decide +kernel), g_w_mem (List.mem_of_getElem? (i := 606) (by decide +kernel)) (by decide +kernel)⟩
theorem MY_X10_pastureCount : g_MY yX10_pastureCount cX10_pastureCount 1 (some .int) 0 := ⟨g_w_mem (List.mem_of_getElem? (i := 724) (by decide +kernel)) (by decide +kernel), g_w_mem (List.mem_of_getElem? (i := 20) (by decide +kernel)) (by decide +kernel), by decide +kernel, by decide +kernel, by decide +kernel⟩
theorem MI_X10_pastureCount : Cond.instanceMethod yX10_pastureCount ∈ g_w ∧ Cond.selects yX10_pastureCount.cls yX10_pastureCount yX10_pastureCount ∈ g_w := ⟨g_w_mem (List.mem_of_getElem? (i := 722) (by decide +kernel)) (by decide +kernel), g_w_mem (List.mem_of_getElem? (i := 723) (by decide +kernel)) (by decide +kernel)⟩
theorem MY_X10_queueLength : g_MY yX10_queueLength cX10_queueLength 1 (some .int) 0 := ⟨g_w_mem (List.mem_of_getElem? (i := 764) (by decide +kernel)) (by decide +kernel), g_w_mem (List.mem_of_getElem? (i := 20) (by decide +kernel)) (by decide +kernel), by decide +kernel, by decide +kernel, by decide +kernel⟩
theorem MI_X10_queueLength : Cond.instanceMethod yX10_queueLength ∈ g_w ∧ Cond.selects yX10_queueLength.cls yX10_queueLength yX10_queueLength ∈ g_w := ⟨g_w_mem (List.mem_of_getElem? (i := 762) (by decide +kernel)) (by decide +kernel), g_w_mem (List.mem_of_getElem? (i := 763) (by decide +kernel)) (by decide +kernel)⟩
theorem MY_X10_queuedGrants : g_MY yX10_queuedGrants cX10_queuedGrants 1 (some .int) 0 := ⟨g_w_mem (List.mem_of_getElem? (i := 772) (by decide +kernel)) (by decide +kernel), g_w_mem (List.mem_of_getElem? (i := 20) (by decide +kernel)) (by decide +kernel), by decide +kernel, by decide +kernel, by decide +kernel⟩
theorem MI_X10_queuedGrants : Cond.instanceMethod yX10_queuedGrants ∈ g_w ∧ Cond.selects yX10_queuedGrants.cls yX10_queuedGrants yX10_queuedGrants ∈ g_w := ⟨g_w_mem (List.mem_of_getElem? (i := 770) (by decide +kernel)) (by decide +kernel), g_w_mem (List.mem_of_getElem? (i := 771) (by decide +kernel)) (by decide +kernel)⟩
theorem MY_X10_queuedHerd : g_MY yX10_queuedHerd cX10_queuedHerd 2 (some .int) 1 := ⟨g_w_mem (List.mem_of_getElem? (i := 785) (by decide +kernel)) (by decide +kernel), g_w_mem (List.mem_of_getElem? (i := 20) (by decide +kernel)) (by decide +kernel), by decide +kernel, by decide +kernel, by decide +kernel⟩
theorem MI_X10_queuedHerd : Cond.instanceMethod yX10_queuedHerd ∈ g_w ∧ Cond.selects yX10_queuedHerd.cls yX10_queuedHerd yX10_queuedHerd ∈ g_w := ⟨g_w_mem (List.mem_of_getElem? (i := 783) (by decide +kernel)) (by decide +kernel), g_w_mem (List.mem_of_getElem? (i := 784) (by decide +kernel)) (by decide +kernel)⟩
theorem MY_X10_release : g_MY yX10_release cX10_release 4 (some .int) 3 := ⟨g_w_mem (List.mem_of_getElem? (i := 683) (by decide +kernel)) (by decide +kernel), g_w_mem (List.mem_of_getElem? (i := 20) (by decide +kernel)) (by decide +kernel), by decide +kernel, by decide +kernel, by decide +kernel⟩
theorem MI_X10_release : Cond.instanceMethod yX10_release ∈ g_w ∧ Cond.selects yX10_release.cls yX10_release yX10_release ∈ g_w := ⟨g_w_mem (List.mem_of_getElem? (i := 681) (by decide +kernel)) (by decide +kernel), g_w_mem (List.mem_of_getElem? (i := 682) (by decide +kernel)) (by decide +kernel)⟩
theorem MY_X10_repay : g_MY yX10_repay cX10_repay 4 (some .int) 3 := ⟨g_w_mem (List.mem_of_getElem? (i := 1224) (by decide +kernel)) (by decide +kernel), g_w_mem (List.mem_of_getElem? (i := 20) (by decide +kernel)) (by decide +kernel), by decide +kernel, by decide +kernel, by decide +kernel⟩
theorem MI_X10_repay : Cond.instanceMethod yX10_repay ∈ g_w ∧ Cond.selects yX10_repay.cls yX10_repay yX10_repay ∈ g_w := ⟨g_w_mem (List.mem_of_getElem? (i := 1222) (by decide +kernel)) (by decide +kernel), g_w_mem (List.mem_of_getElem? (i := 1223) (by decide +kernel)) (by decide +kernel)⟩
theorem MY_X10_request : g_MY yX10_request cX10_request 4 (some .boolean) 3 := ⟨g_w_mem (List.mem_of_getElem? (i := 649) (by decide +kernel)) (by decide +kernel), g_w_mem (List.mem_of_getElem? (i := 20) (by decide +kernel)) (by decide +kernel), by decide +kernel, by decide +kernel, by decide +kernel⟩
theorem MI_X10_request : Cond.instanceMethod yX10_request ∈ g_w ∧ Cond.selects yX10_request.cls yX10_request yX10_request ∈ g_w := ⟨g_w_mem (List.mem_of_getElem? (i := 647) (by decide +kernel)) (by decide +kernel), g_w_mem (List.mem_of_getElem? (i := 648) (by decide +kernel)) (by decide +kernel)⟩
theorem MY_X10_requestedAmount : g_MY yX10_requestedAmount cX10_requestedAmount 2 (some .int) 1 := ⟨g_w_mem (List.mem_of_getElem? (i := 780) (by decide +kernel)) (by decide +kernel), g_w_mem (List.mem_of_getElem? (i := 20) (by decide +kernel)) (by decide +kernel), by decide +kernel, by decide +kernel, by decide +kernel⟩
theorem MI_X10_requestedAmount : Cond.instanceMethod yX10_requestedAmount ∈ g_w ∧ Cond.selects yX10_requestedAmount.cls yX10_requestedAmount yX10_requestedAmount ∈ g_w := ⟨g_w_mem (List.mem_of_getElem? (i := 778) (by decide +kernel)) (by decide +kernel), g_w_mem (List.mem_of_getElem? (i := 779) (by decide +kernel)) (by decide +kernel)⟩
theorem MY_X10_requestedPasture : g_MY yX10_requestedPasture cX10_requestedPasture 2 (some .int) 1 := ⟨g_w_mem (List.mem_of_getElem? (i := 776) (by decide +kernel)) (by decide +kernel), g_w_mem (List.mem_of_getElem? (i := 20) (by decide +kernel)) (by decide +kernel), by decide +kernel, by decide +kernel, by decide +kernel⟩
theorem MI_X10_requestedPasture : Cond.instanceMethod yX10_requestedPasture ∈ g_w ∧ Cond.selects yX10_requestedPasture.cls yX10_requestedPasture yX10_requestedPasture ∈ g_w := ⟨g_w_mem (List.mem_of_getElem? (i := 774) (by decide +kernel)) (by decide +kernel), g_w_mem (List.mem_of_getElem? (i := 775) (by decide +kernel)) (by decide +kernel)⟩
theorem MY_X10_setCapacity : g_MY yX10_setCapacity cX10_setCapacity 3 (some .int) 2 := ⟨g_w_mem (List.mem_of_getElem? (i := 1158) (by decide +kernel)) (by decide +kernel), g_w_mem (List.mem_of_getElem? (i := 20) (by decide +kernel)) (by decide +kernel), by decide +kernel, by decide +kernel, by decide +kernel⟩
theorem MI_X10_setCapacity : Cond.instanceMethod yX10_setCapacity ∈ g_w ∧ Cond.selects yX10_setCapacity.cls yX10_setCapacity yX10_setCapacity ∈ g_w := ⟨g_w_mem (List.mem_of_getElem? (i := 1156) (by decide +kernel)) (by decide +kernel), g_w_mem (List.mem_of_getElem? (i := 1157) (by decide +kernel)) (by decide +kernel)⟩
theorem MY_X10_setMaximum : g_MY yX10_setMaximum cX10_setMaximum 4 (some .int) 3 := ⟨g_w_mem (List.mem_of_getElem? (i := 1172) (by decide +kernel)) (by decide +kernel), g_w_mem (List.mem_of_getElem? (i := 20) (by decide +kernel)) (by decide +kernel), by decide +kernel, by decide +kernel, by decide +kernel⟩
theorem MI_X10_setMaximum : Cond.instanceMethod yX10_setMaximum ∈ g_w ∧ Cond.selects yX10_setMaximum.cls yX10_setMaximum yX10_setMaximum ∈ g_w := ⟨g_w_mem (List.mem_of_getElem? (i := 1170) (by decide +kernel)) (by decide +kernel), g_w_mem (List.mem_of_getElem? (i := 1171) (by decide +kernel)) (by decide +kernel)⟩
theorem MY_X10_truncate : g_MY yX10_truncate cX10_truncate 2 (some .int) 1 := ⟨g_w_mem (List.mem_of_getElem? (i := 884) (by decide +kernel)) (by decide +kernel), g_w_mem (List.mem_of_getElem? (i := 20) (by decide +kernel)) (by decide +kernel), by decide +kernel, by decide +kernel, by decide +kernel⟩
theorem MI_X10_truncate : Cond.instanceMethod yX10_truncate ∈ g_w ∧ Cond.selects yX10_truncate.cls yX10_truncate yX10_truncate ∈ g_w := ⟨g_w_mem (List.mem_of_getElem? (i := 882) (by decide +kernel)) (by decide +kernel), g_w_mem (List.mem_of_getElem? (i := 883) (by decide +kernel)) (by decide +kernel)⟩
theorem MY_X11_canFinish : g_MY yX11_canFinish cX11_canFinish 8 (some .boolean) 2 := ⟨g_w_mem (List.mem_of_getElem? (i := 812) (by decide +kernel)) (by decide +kernel), g_w_mem (List.mem_of_getElem? (i := 47) (by decide +kernel)) (by decide +kernel), by decide +kernel, by decide +kernel, by decide +kernel⟩
theorem MI_X11_canFinish : Cond.instanceMethod yX11_canFinish ∈ g_w ∧ Cond.selects yX11_canFinish.cls yX11_canFinish yX11_canFinish ∈ g_w := ⟨g_w_mem (List.mem_of_getElem? (i := 810) (by decide +kernel)) (by decide +kernel), g_w_mem (List.mem_of_getElem? (i := 811) (by decide +kernel)) (by decide +kernel)⟩
theorem MY_X11_free : g_MY yX11_free cX11_free 4 (some .int) 1 := ⟨g_w_mem (List.mem_of_getElem? (i := 797) (by decide +kernel)) (by decide +kernel), g_w_mem (List.mem_of_getElem? (i := 47) (by decide +kernel)) (by decide +kernel), by decide +kernel, by decide +kernel, by decide +kernel⟩
theorem MI_X11_free : Cond.instanceMethod yX11_free ∈ g_w ∧ Cond.selects yX11_free.cls yX11_free yX11_free ∈ g_w := ⟨g_w_mem (List.mem_of_getElem? (i := 795) (by decide +kernel)) (by decide +kernel), g_w_mem (List.mem_of_getElem? (i := 796) (by decide +kernel)) (by decide +kernel)⟩
theorem MY_X11_grants : g_MY yX11_grants cX11_grants 4 (some .boolean) 3 := ⟨g_w_mem (List.mem_of_getElem? (i := 793) (by decide +kernel)) (by decide +kernel), g_w_mem (List.mem_of_getElem? (i := 47) (by decide +kernel)) (by decide +kernel), by decide +kernel, by decide +kernel, by decide +kernel⟩
theorem MI_X11_grants : Cond.instanceMethod yX11_grants ∈ g_w ∧ Cond.selects yX11_grants.cls yX11_grants yX11_grants ∈ g_w := ⟨g_w_mem (List.mem_of_getElem? (i := 791) (by decide +kernel)) (by decide +kernel), g_w_mem (List.mem_of_getElem? (i := 792) (by decide +kernel)) (by decide +kernel)⟩
theorem MY_X11_isSafe : g_MY yX11_isSafe cX11_isSafe 1 (some .boolean) 0 := ⟨g_w_mem (List.mem_of_getElem? (i := 808) (by decide +kernel)) (by decide +kernel), g_w_mem (List.mem_of_getElem? (i := 47) (by decide +kernel)) (by decide +kernel), by decide +kernel, by decide +kernel, by decide +kernel⟩
theorem MI_X11_isSafe : Cond.instanceMethod yX11_isSafe ∈ g_w ∧ Cond.selects yX11_isSafe.cls yX11_isSafe yX11_isSafe ∈ g_w := ⟨g_w_mem (List.mem_of_getElem? (i := 806) (by decide +kernel)) (by decide +kernel), g_w_mem (List.mem_of_getElem? (i := 807) (by decide +kernel)) (by decide +kernel)⟩
theorem MY_X11_leave : g_MY yX11_leave cX11_leave 3 none 1 := ⟨g_w_mem (List.mem_of_getElem? (i := 820) (by decide +kernel)) (by decide +kernel), g_w_mem (List.mem_of_getElem? (i := 47) (by decide +kernel)) (by decide +kernel), by decide +kernel, by decide +kernel, by decide +kernel⟩
theorem MI_X11_leave : Cond.instanceMethod yX11_leave ∈ g_w ∧ Cond.selects yX11_leave.cls yX11_leave yX11_leave ∈ g_w := ⟨g_w_mem (List.mem_of_getElem? (i := 818) (by decide +kernel)) (by decide +kernel), g_w_mem (List.mem_of_getElem? (i := 819) (by decide +kernel)) (by decide +kernel)⟩
theorem MY_X11_process : g_MY yX11_process cX11_process 5 (some .int) 0 := ⟨g_w_mem (List.mem_of_getElem? (i := 789) (by decide +kernel)) (by decide +kernel), g_w_mem (List.mem_of_getElem? (i := 47) (by decide +kernel)) (by decide +kernel), by decide +kernel, by decide +kernel, by decide +kernel⟩
theorem MI_X11_process : Cond.instanceMethod yX11_process ∈ g_w ∧ Cond.selects yX11_process.cls yX11_process yX11_process ∈ g_w := ⟨g_w_mem (List.mem_of_getElem? (i := 787) (by decide +kernel)) (by decide +kernel), g_w_mem (List.mem_of_getElem? (i := 788) (by decide +kernel)) (by decide +kernel)⟩
theorem MY_X1_change : g_MY yX1_change cX1_change 5 (some .int) 3 := ⟨g_w_mem (List.mem_of_getElem? (i := 1220) (by decide +kernel)) (by decide +kernel), g_w_mem (List.mem_of_getElem? (i := 28) (by decide +kernel)) (by decide +kernel), by decide +kernel, by decide +kernel, by decide +kernel⟩
theorem MI_X1_change : Cond.instanceMethod yX1_change ∈ g_w ∧ Cond.selects yX1_change.cls yX1_change yX1_change ∈ g_w := ⟨g_w_mem (List.mem_of_getElem? (i := 1218) (by decide +kernel)) (by decide +kernel), g_w_mem (List.mem_of_getElem? (i := 1219) (by decide +kernel)) (by decide +kernel)⟩
theorem MY_X1_clear : g_MY yX1_clear cX1_clear 2 none 0 := ⟨g_w_mem (List.mem_of_getElem? (i := 378) (by decide +kernel)) (by decide +kernel), g_w_mem (List.mem_of_getElem? (i := 28) (by decide +kernel)) (by decide +kernel), by decide +kernel, by decide +kernel, by decide +kernel⟩
theorem MI_X1_clear : Cond.instanceMethod yX1_clear ∈ g_w ∧ Cond.selects yX1_clear.cls yX1_clear yX1_clear ∈ g_w := ⟨g_w_mem (List.mem_of_getElem? (i := 376) (by decide +kernel)) (by decide +kernel), g_w_mem (List.mem_of_getElem? (i := 377) (by decide +kernel)) (by decide +kernel)⟩
theorem MY_X1_copyFrom : g_MY yX1_copyFrom cX1_copyFrom 2 none 1 := ⟨g_w_mem (List.mem_of_getElem? (i := 554) (by decide +kernel)) (by decide +kernel), g_w_mem (List.mem_of_getElem? (i := 28) (by decide +kernel)) (by decide +kernel), by decide +kernel, by decide +kernel, by decide +kernel⟩
theorem MI_X1_copyFrom : Cond.instanceMethod yX1_copyFrom ∈ g_w ∧ Cond.selects yX1_copyFrom.cls yX1_copyFrom yX1_copyFrom ∈ g_w := ⟨g_w_mem (List.mem_of_getElem? (i := 552) (by decide +kernel)) (by decide +kernel), g_w_mem (List.mem_of_getElem? (i := 553) (by decide +kernel)) (by decide +kernel)⟩
theorem MY_X1_creditorsOf : g_MY yX1_creditorsOf cX1_creditorsOf 5 (some .int) 1 := ⟨g_w_mem (List.mem_of_getElem? (i := 1199) (by decide +kernel)) (by decide +kernel), g_w_mem (List.mem_of_getElem? (i := 28) (by decide +kernel)) (by decide +kernel), by decide +kernel, by decide +kernel, by decide +kernel⟩
theorem MI_X1_creditorsOf : Cond.instanceMethod yX1_creditorsOf ∈ g_w ∧ Cond.selects yX1_creditorsOf.cls yX1_creditorsOf yX1_creditorsOf ∈ g_w := ⟨g_w_mem (List.mem_of_getElem? (i := 1197) (by decide +kernel)) (by decide +kernel), g_w_mem (List.mem_of_getElem? (i := 1198) (by decide +kernel)) (by decide +kernel)⟩
theorem MY_X1_cycleClosedBy : g_MY yX1_cycleClosedBy cX1_cycleClosedBy 5 (some .int) 2 := ⟨g_w_mem (List.mem_of_getElem? (i := 1195) (by decide +kernel)) (by decide +kernel), g_w_mem (List.mem_of_getElem? (i := 28) (by decide +kernel)) (by decide +kernel), by decide +kernel, by decide +kernel, by decide +kernel⟩
theorem MI_X1_cycleClosedBy : Cond.instanceMethod yX1_cycleClosedBy ∈ g_w ∧ Cond.selects yX1_cycleClosedBy.cls yX1_cycleClosedBy yX1_cycleClosedBy ∈ g_w := ⟨g_w_mem (List.mem_of_getElem? (i := 1193) (by decide +kernel)) (by decide +kernel), g_w_mem (List.mem_of_getElem? (i := 1194) (by decide +kernel)) (by decide +kernel)⟩
theorem MY_X1_debtorsOf : g_MY yX1_debtorsOf cX1_debtorsOf 5 (some .int) 1 := ⟨g_w_mem (List.mem_of_getElem? (i := 868) (by decide +kernel)) (by decide +kernel), g_w_mem (List.mem_of_getElem? (i := 28) (by decide +kernel)) (by decide +kernel), by decide +kernel, by decide +kernel, by decide +kernel⟩
theorem MI_X1_debtorsOf : Cond.instanceMethod yX1_debtorsOf ∈ g_w ∧ Cond.selects yX1_debtorsOf.cls yX1_debtorsOf yX1_debtorsOf ∈ g_w := ⟨g_w_mem (List.mem_of_getElem? (i := 866) (by decide +kernel)) (by decide +kernel), g_w_mem (List.mem_of_getElem? (i := 867) (by decide +kernel)) (by decide +kernel)⟩
theorem MY_X1_herdsInCycles : g_MY yX1_herdsInCycles cX1_herdsInCycles 3 (some .int) 0 := ⟨g_w_mem (List.mem_of_getElem? (i := 860) (by decide +kernel)) (by decide +kernel), g_w_mem (List.mem_of_getElem? (i := 28) (by decide +kernel)) (by decide +kernel), by decide +kernel, by decide +kernel, by decide +kernel⟩
theorem MI_X1_herdsInCycles : Cond.instanceMethod yX1_herdsInCycles ∈ g_w ∧ Cond.selects yX1_herdsInCycles.cls yX1_herdsInCycles yX1_herdsInCycles ∈ g_w := ⟨g_w_mem (List.mem_of_getElem? (i := 858) (by decide +kernel)) (by decide +kernel), g_w_mem (List.mem_of_getElem? (i := 859) (by decide +kernel)) (by decide +kernel)⟩
theorem MY_X1_herdsReaching : g_MY yX1_herdsReaching cX1_herdsReaching 4 (some .int) 1 := ⟨g_w_mem (List.mem_of_getElem? (i := 864) (by decide +kernel)) (by decide +kernel), g_w_mem (List.mem_of_getElem? (i := 28) (by decide +kernel)) (by decide +kernel), by decide +kernel, by decide +kernel, by decide +kernel⟩
theorem MI_X1_herdsReaching : Cond.instanceMethod yX1_herdsReaching ∈ g_w ∧ Cond.selects yX1_herdsReaching.cls yX1_herdsReaching yX1_herdsReaching ∈ g_w := ⟨g_w_mem (List.mem_of_getElem? (i := 862) (by decide +kernel)) (by decide +kernel), g_w_mem (List.mem_of_getElem? (i := 863) (by decide +kernel)) (by decide +kernel)⟩
theorem MY_X1_owed : g_MY yX1_owed cX1_owed 3 (some .int) 2 := ⟨g_w_mem (List.mem_of_getElem? (i := 872) (by decide +kernel)) (by decide +kernel), g_w_mem (List.mem_of_getElem? (i := 28) (by decide +kernel)) (by decide +kernel), by decide +kernel, by decide +kernel, by decide +kernel⟩
theorem MI_X1_owed : Cond.instanceMethod yX1_owed ∈ g_w ∧ Cond.selects yX1_owed.cls yX1_owed yX1_owed ∈ g_w := ⟨g_w_mem (List.mem_of_getElem? (i := 870) (by decide +kernel)) (by decide +kernel), g_w_mem (List.mem_of_getElem? (i := 871) (by decide +kernel)) (by decide +kernel)⟩
theorem MY_X2_ofCancel : g_MY yX2_ofCancel cX2_ofCancel 2 (some .int) 2 := ⟨g_w_mem (List.mem_of_getElem? (i := 1147) (by decide +kernel)) (by decide +kernel), g_w_mem (List.mem_of_getElem? (i := 48) (by decide +kernel)) (by decide +kernel), by decide +kernel, by decide +kernel, by decide +kernel⟩
theorem MS_X2_ofCancel : Cond.static yX2_ofCancel ∈ g_w := g_w_mem (List.mem_of_getElem? (i := 1146) (by decide +kernel)) (by decide +kernel)
theorem MY_X2_ofCapacity : g_MY yX2_ofCapacity cX2_ofCapacity 3 (some .int) 3 := ⟨g_w_mem (List.mem_of_getElem? (i := 1161) (by decide +kernel)) (by decide +kernel), g_w_mem (List.mem_of_getElem? (i := 48) (by decide +kernel)) (by decide +kernel), by decide +kernel, by decide +kernel, by decide +kernel⟩
theorem MS_X2_ofCapacity : Cond.static yX2_ofCapacity ∈ g_w := g_w_mem (List.mem_of_getElem? (i := 1160) (by decide +kernel)) (by decide +kernel)
theorem MY_X2_ofCoins : g_MY yX2_ofCoins cX2_ofCoins 4 (some .int) 4 := ⟨g_w_mem (List.mem_of_getElem? (i := 1214) (by decide +kernel)) (by decide +kernel), g_w_mem (List.mem_of_getElem? (i := 48) (by decide +kernel)) (by decide +kernel), by decide +kernel, by decide +kernel, by decide +kernel⟩
theorem MS_X2_ofCoins : Cond.static yX2_ofCoins ∈ g_w := g_w_mem (List.mem_of_getElem? (i := 1213) (by decide +kernel)) (by decide +kernel)
theorem MY_X2_ofHerd : g_MY yX2_ofHerd cX2_ofHerd 2 (some .int) 2 := ⟨g_w_mem (List.mem_of_getElem? (i := 641) (by decide +kernel)) (by decide +kernel), g_w_mem (List.mem_of_getElem? (i := 48) (by decide +kernel)) (by decide +kernel), by decide +kernel, by decide +kernel, by decide +kernel⟩
theorem MS_X2_ofHerd : Cond.static yX2_ofHerd ∈ g_w := g_w_mem (List.mem_of_getElem? (i := 640) (by decide +kernel)) (by decide +kernel)
theorem MY_X2_ofHerdOrPasture : g_MY yX2_ofHerdOrPasture cX2_ofHerdOrPasture 3 (some .int) 3 := ⟨g_w_mem (List.mem_of_getElem? (i := 562) (by decide +kernel)) (by decide +kernel), g_w_mem (List.mem_of_getElem? (i := 48) (by decide +kernel)) (by decide +kernel), by decide +kernel, by decide +kernel, by decide +kernel⟩
theorem MS_X2_ofHerdOrPasture : Cond.static yX2_ofHerdOrPasture ∈ g_w := g_w_mem (List.mem_of_getElem? (i := 561) (by decide +kernel)) (by decide +kernel)
theorem MY_X2_ofLoan : g_MY yX2_ofLoan cX2_ofLoan 5 (some .int) 4 := ⟨g_w_mem (List.mem_of_getElem? (i := 1211) (by decide +kernel)) (by decide +kernel), g_w_mem (List.mem_of_getElem? (i := 48) (by decide +kernel)) (by decide +kernel), by decide +kernel, by decide +kernel, by decide +kernel⟩
theorem MS_X2_ofLoan : Cond.static yX2_ofLoan ∈ g_w := g_w_mem (List.mem_of_getElem? (i := 1210) (by decide +kernel)) (by decide +kernel)
theorem MY_X2_ofMaximum : g_MY yX2_ofMaximum cX2_ofMaximum 5 (some .int) 4 := ⟨g_w_mem (List.mem_of_getElem? (i := 1175) (by decide +kernel)) (by decide +kernel), g_w_mem (List.mem_of_getElem? (i := 48) (by decide +kernel)) (by decide +kernel), by decide +kernel, by decide +kernel, by decide +kernel⟩
theorem MS_X2_ofMaximum : Cond.static yX2_ofMaximum ∈ g_w := g_w_mem (List.mem_of_getElem? (i := 1174) (by decide +kernel)) (by decide +kernel)
theorem MY_X2_ofPasture : g_MY yX2_ofPasture cX2_ofPasture 2 (some .int) 2 := ⟨g_w_mem (List.mem_of_getElem? (i := 804) (by decide +kernel)) (by decide +kernel), g_w_mem (List.mem_of_getElem? (i := 48) (by decide +kernel)) (by decide +kernel), by decide +kernel, by decide +kernel, by decide +kernel⟩
theorem MS_X2_ofPasture : Cond.static yX2_ofPasture ∈ g_w := g_w_mem (List.mem_of_getElem? (i := 803) (by decide +kernel)) (by decide +kernel)
theorem MY_X2_ofRelease : g_MY yX2_ofRelease cX2_ofRelease 5 (some .int) 4 := ⟨g_w_mem (List.mem_of_getElem? (i := 686) (by decide +kernel)) (by decide +kernel), g_w_mem (List.mem_of_getElem? (i := 48) (by decide +kernel)) (by decide +kernel), by decide +kernel, by decide +kernel, by decide +kernel⟩
theorem MS_X2_ofRelease : Cond.static yX2_ofRelease ∈ g_w := g_w_mem (List.mem_of_getElem? (i := 685) (by decide +kernel)) (by decide +kernel)
theorem MY_X2_ofRepayment : g_MY yX2_ofRepayment cX2_ofRepayment 5 (some .int) 4 := ⟨g_w_mem (List.mem_of_getElem? (i := 1227) (by decide +kernel)) (by decide +kernel), g_w_mem (List.mem_of_getElem? (i := 48) (by decide +kernel)) (by decide +kernel), by decide +kernel, by decide +kernel, by decide +kernel⟩
theorem MS_X2_ofRepayment : Cond.static yX2_ofRepayment ∈ g_w := g_w_mem (List.mem_of_getElem? (i := 1226) (by decide +kernel)) (by decide +kernel)
theorem MY_X2_ofRequest : g_MY yX2_ofRequest cX2_ofRequest 5 (some .int) 4 := ⟨g_w_mem (List.mem_of_getElem? (i := 652) (by decide +kernel)) (by decide +kernel), g_w_mem (List.mem_of_getElem? (i := 48) (by decide +kernel)) (by decide +kernel), by decide +kernel, by decide +kernel, by decide +kernel⟩
theorem MS_X2_ofRequest : Cond.static yX2_ofRequest ∈ g_w := g_w_mem (List.mem_of_getElem? (i := 651) (by decide +kernel)) (by decide +kernel)
theorem MY_X2_ofTwoHerds : g_MY yX2_ofTwoHerds cX2_ofTwoHerds 3 (some .int) 3 := ⟨g_w_mem (List.mem_of_getElem? (i := 1191) (by decide +kernel)) (by decide +kernel), g_w_mem (List.mem_of_getElem? (i := 48) (by decide +kernel)) (by decide +kernel), by decide +kernel, by decide +kernel, by decide +kernel⟩
theorem MS_X2_ofTwoHerds : Cond.static yX2_ofTwoHerds ∈ g_w := g_w_mem (List.mem_of_getElem? (i := 1190) (by decide +kernel)) (by decide +kernel)
theorem MY_X2_ofUnits : g_MY yX2_ofUnits cX2_ofUnits 4 (some .int) 4 := ⟨g_w_mem (List.mem_of_getElem? (i := 655) (by decide +kernel)) (by decide +kernel), g_w_mem (List.mem_of_getElem? (i := 48) (by decide +kernel)) (by decide +kernel), by decide +kernel, by decide +kernel, by decide +kernel⟩
theorem MS_X2_ofUnits : Cond.static yX2_ofUnits ∈ g_w := g_w_mem (List.mem_of_getElem? (i := 654) (by decide +kernel)) (by decide +kernel)
theorem MY_X3_remember : g_MY yX3_remember cX3_remember 2 none 1 := ⟨g_w_mem (List.mem_of_getElem? (i := 661) (by decide +kernel)) (by decide +kernel), g_w_mem (List.mem_of_getElem? (i := 29) (by decide +kernel)) (by decide +kernel), by decide +kernel, by decide +kernel, by decide +kernel⟩
theorem MI_X3_remember : Cond.instanceMethod yX3_remember ∈ g_w ∧ Cond.selects yX3_remember.cls yX3_remember yX3_remember ∈ g_w := ⟨g_w_mem (List.mem_of_getElem? (i := 659) (by decide +kernel)) (by decide +kernel), g_w_mem (List.mem_of_getElem? (i := 660) (by decide +kernel)) (by decide +kernel)⟩
theorem MY_X4_isDigit : g_MY yX4_isDigit cX4_isDigit 1 (some .boolean) 1 := ⟨g_w_mem (List.mem_of_getElem? (i := 363) (by decide +kernel)) (by decide +kernel), g_w_mem (List.mem_of_getElem? (i := 22) (by decide +kernel)) (by decide +kernel), by decide +kernel, by decide +kernel, by decide +kernel⟩
theorem MS_X4_isDigit : Cond.static yX4_isDigit ∈ g_w := g_w_mem (List.mem_of_getElem? (i := 362) (by decide +kernel)) (by decide +kernel)
theorem MY_X4_isLetter : g_MY yX4_isLetter cX4_isLetter 1 (some .boolean) 1 := ⟨g_w_mem (List.mem_of_getElem? (i := 360) (by decide +kernel)) (by decide +kernel), g_w_mem (List.mem_of_getElem? (i := 22) (by decide +kernel)) (by decide +kernel), by decide +kernel, by decide +kernel, by decide +kernel⟩
theorem MS_X4_isLetter : Cond.static yX4_isLetter ∈ g_w := g_w_mem (List.mem_of_getElem? (i := 359) (by decide +kernel)) (by decide +kernel)
theorem MY_X4_isSeparator : g_MY yX4_isSeparator cX4_isSeparator 1 (some .boolean) 1 := ⟨g_w_mem (List.mem_of_getElem? (i := 357) (by decide +kernel)) (by decide +kernel), g_w_mem (List.mem_of_getElem? (i := 22) (by decide +kernel)) (by decide +kernel), by decide +kernel, by decide +kernel, by decide +kernel⟩
theorem MS_X4_isSeparator : Cond.static yX4_isSeparator ∈ g_w := g_w_mem (List.mem_of_getElem? (i := 356) (by decide +kernel)) (by decide +kernel)
theorem MY_X4_isWord : g_MY yX4_isWord cX4_isWord 3 (some .boolean) 1 := ⟨g_w_mem (List.mem_of_getElem? (i := 387) (by decide +kernel)) (by decide +kernel), g_w_mem (List.mem_of_getElem? (i := 22) (by decide +kernel)) (by decide +kernel), by decide +kernel, by decide +kernel, by decide +kernel⟩
theorem MI_X4_isWord : Cond.instanceMethod yX4_isWord ∈ g_w ∧ Cond.selects yX4_isWord.cls yX4_isWord yX4_isWord ∈ g_w := ⟨g_w_mem (List.mem_of_getElem? (i := 385) (by decide +kernel)) (by decide +kernel), g_w_mem (List.mem_of_getElem? (i := 386) (by decide +kernel)) (by decide +kernel)⟩
theorem MY_X4_put : g_MY yX4_put cX4_put 2 none 1 := ⟨g_w_mem (List.mem_of_getElem? (i := 338) (by decide +kernel)) (by decide +kernel), g_w_mem (List.mem_of_getElem? (i := 22) (by decide +kernel)) (by decide +kernel), by decide +kernel, by decide +kernel, by decide +kernel⟩
theorem MI_X4_put : Cond.instanceMethod yX4_put ∈ g_w ∧ Cond.selects yX4_put.cls yX4_put yX4_put ∈ g_w := ⟨g_w_mem (List.mem_of_getElem? (i := 337) (by decide +kernel)) (by decide +kernel), g_w_mem (List.mem_of_getElem? (i := 0) (by decide +kernel)) (by decide +kernel)⟩
theorem MY_X4_putFourBytes : g_MY yX4_putFourBytes cX4_putFourBytes 2 none 1 := ⟨g_w_mem (List.mem_of_getElem? (i := 899) (by decide +kernel)) (by decide +kernel), g_w_mem (List.mem_of_getElem? (i := 22) (by decide +kernel)) (by decide +kernel), by decide +kernel, by decide +kernel, by decide +kernel⟩
theorem MI_X4_putFourBytes : Cond.instanceMethod yX4_putFourBytes ∈ g_w ∧ Cond.selects yX4_putFourBytes.cls yX4_putFourBytes yX4_putFourBytes ∈ g_w := ⟨g_w_mem (List.mem_of_getElem? (i := 897) (by decide +kernel)) (by decide +kernel), g_w_mem (List.mem_of_getElem? (i := 898) (by decide +kernel)) (by decide +kernel)⟩
theorem MY_X4_readFirst : g_MY yX4_readFirst cX4_readFirst 1 none 0 := ⟨g_w_mem (List.mem_of_getElem? (i := 350) (by decide +kernel)) (by decide +kernel), g_w_mem (List.mem_of_getElem? (i := 22) (by decide +kernel)) (by decide +kernel), by decide +kernel, by decide +kernel, by decide +kernel⟩
theorem MI_X4_readFirst : Cond.instanceMethod yX4_readFirst ∈ g_w ∧ Cond.selects yX4_readFirst.cls yX4_readFirst yX4_readFirst ∈ g_w := ⟨g_w_mem (List.mem_of_getElem? (i := 348) (by decide +kernel)) (by decide +kernel), g_w_mem (List.mem_of_getElem? (i := 349) (by decide +kernel)) (by decide +kernel)⟩
theorem MY_X4_readNext : g_MY yX4_readNext cX4_readNext 1 none 0 := ⟨g_w_mem (List.mem_of_getElem? (i := 354) (by decide +kernel)) (by decide +kernel), g_w_mem (List.mem_of_getElem? (i := 22) (by decide +kernel)) (by decide +kernel), by decide +kernel, by decide +kernel, by decide +kernel⟩
theorem MI_X4_readNext : Cond.instanceMethod yX4_readNext ∈ g_w ∧ Cond.selects yX4_readNext.cls yX4_readNext yX4_readNext ∈ g_w := ⟨g_w_mem (List.mem_of_getElem? (i := 352) (by decide +kernel)) (by decide +kernel), g_w_mem (List.mem_of_getElem? (i := 353) (by decide +kernel)) (by decide +kernel)⟩
theorem MY_X4_readSign : g_MY yX4_readSign cX4_readSign 1 none 0 := ⟨g_w_mem (List.mem_of_getElem? (i := 367) (by decide +kernel)) (by decide +kernel), g_w_mem (List.mem_of_getElem? (i := 22) (by decide +kernel)) (by decide +kernel), by decide +kernel, by decide +kernel, by decide +kernel⟩
theorem MI_X4_readSign : Cond.instanceMethod yX4_readSign ∈ g_w ∧ Cond.selects yX4_readSign.cls yX4_readSign yX4_readSign ∈ g_w := ⟨g_w_mem (List.mem_of_getElem? (i := 366) (by decide +kernel)) (by decide +kernel), g_w_mem (List.mem_of_getElem? (i := 2) (by decide +kernel)) (by decide +kernel)⟩
theorem MY_X5_add : g_MY yX5_add cX5_add 4 none 3 := ⟨g_w_mem (List.mem_of_getElem? (i := 421) (by decide +kernel)) (by decide +kernel), g_w_mem (List.mem_of_getElem? (i := 27) (by decide +kernel)) (by decide +kernel), by decide +kernel, by decide +kernel, by decide +kernel⟩
theorem MI_X5_add : Cond.instanceMethod yX5_add ∈ g_w ∧ Cond.selects yX5_add.cls yX5_add yX5_add ∈ g_w := ⟨g_w_mem (List.mem_of_getElem? (i := 419) (by decide +kernel)) (by decide +kernel), g_w_mem (List.mem_of_getElem? (i := 420) (by decide +kernel)) (by decide +kernel)⟩
theorem MY_X5_copyFrom : g_MY yX5_copyFrom cX5_copyFrom 2 none 1 := ⟨g_w_mem (List.mem_of_getElem? (i := 549) (by decide +kernel)) (by decide +kernel), g_w_mem (List.mem_of_getElem? (i := 27) (by decide +kernel)) (by decide +kernel), by decide +kernel, by decide +kernel, by decide +kernel⟩
theorem MI_X5_copyFrom : Cond.instanceMethod yX5_copyFrom ∈ g_w ∧ Cond.selects yX5_copyFrom.cls yX5_copyFrom yX5_copyFrom ∈ g_w := ⟨g_w_mem (List.mem_of_getElem? (i := 547) (by decide +kernel)) (by decide +kernel), g_w_mem (List.mem_of_getElem? (i := 548) (by decide +kernel)) (by decide +kernel)⟩
theorem MY_X5_find : g_MY yX5_find cX5_find 5 (some .int) 3 := ⟨g_w_mem (List.mem_of_getElem? (i := 413) (by decide +kernel)) (by decide +kernel), g_w_mem (List.mem_of_getElem? (i := 27) (by decide +kernel)) (by decide +kernel), by decide +kernel, by decide +kernel, by decide +kernel⟩
theorem MI_X5_find : Cond.instanceMethod yX5_find ∈ g_w ∧ Cond.selects yX5_find.cls yX5_find yX5_find ∈ g_w := ⟨g_w_mem (List.mem_of_getElem? (i := 411) (by decide +kernel)) (by decide +kernel), g_w_mem (List.mem_of_getElem? (i := 412) (by decide +kernel)) (by decide +kernel)⟩
theorem MY_X5_has : g_MY yX5_has cX5_has 2 (some .boolean) 1 := ⟨g_w_mem (List.mem_of_getElem? (i := 566) (by decide +kernel)) (by decide +kernel), g_w_mem (List.mem_of_getElem? (i := 27) (by decide +kernel)) (by decide +kernel), by decide +kernel, by decide +kernel, by decide +kernel⟩
theorem MI_X5_has : Cond.instanceMethod yX5_has ∈ g_w ∧ Cond.selects yX5_has.cls yX5_has yX5_has ∈ g_w := ⟨g_w_mem (List.mem_of_getElem? (i := 564) (by decide +kernel)) (by decide +kernel), g_w_mem (List.mem_of_getElem? (i := 565) (by decide +kernel)) (by decide +kernel)⟩
theorem MY_X5_isAt : g_MY yX5_isAt cX5_isAt 5 (some .boolean) 3 := ⟨g_w_mem (List.mem_of_getElem? (i := 417) (by decide +kernel)) (by decide +kernel), g_w_mem (List.mem_of_getElem? (i := 27) (by decide +kernel)) (by decide +kernel), by decide +kernel, by decide +kernel, by decide +kernel⟩
theorem MI_X5_isAt : Cond.instanceMethod yX5_isAt ∈ g_w ∧ Cond.selects yX5_isAt.cls yX5_isAt yX5_isAt ∈ g_w := ⟨g_w_mem (List.mem_of_getElem? (i := 416) (by decide +kernel)) (by decide +kernel), g_w_mem (List.mem_of_getElem? (i := 9) (by decide +kernel)) (by decide +kernel)⟩
theorem MY_X7_fail : g_MY yX7_fail cX7_fail 2 (some .boolean) 1 := ⟨g_w_mem (List.mem_of_getElem? (i := 391) (by decide +kernel)) (by decide +kernel), g_w_mem (List.mem_of_getElem? (i := 21) (by decide +kernel)) (by decide +kernel), by decide +kernel, by decide +kernel, by decide +kernel⟩
theorem MI_X7_fail : Cond.instanceMethod yX7_fail ∈ g_w ∧ Cond.selects yX7_fail.cls yX7_fail yX7_fail ∈ g_w := ⟨g_w_mem (List.mem_of_getElem? (i := 390) (by decide +kernel)) (by decide +kernel), g_w_mem (List.mem_of_getElem? (i := 4) (by decide +kernel)) (by decide +kernel)⟩
theorem MY_X7_herd : g_MY yX7_herd cX7_herd 4 (some .boolean) 1 := ⟨g_w_mem (List.mem_of_getElem? (i := 436) (by decide +kernel)) (by decide +kernel), g_w_mem (List.mem_of_getElem? (i := 21) (by decide +kernel)) (by decide +kernel), by decide +kernel, by decide +kernel, by decide +kernel⟩
theorem MI_X7_herd : Cond.instanceMethod yX7_herd ∈ g_w ∧ Cond.selects yX7_herd.cls yX7_herd yX7_herd ∈ g_w := ⟨g_w_mem (List.mem_of_getElem? (i := 435) (by decide +kernel)) (by decide +kernel), g_w_mem (List.mem_of_getElem? (i := 12) (by decide +kernel)) (by decide +kernel)⟩
theorem MY_X7_herds : g_MY yX7_herds cX7_herds 3 (some .boolean) 1 := ⟨g_w_mem (List.mem_of_getElem? (i := 432) (by decide +kernel)) (by decide +kernel), g_w_mem (List.mem_of_getElem? (i := 21) (by decide +kernel)) (by decide +kernel), by decide +kernel, by decide +kernel, by decide +kernel⟩
theorem MI_X7_herds : Cond.instanceMethod yX7_herds ∈ g_w ∧ Cond.selects yX7_herds.cls yX7_herds yX7_herds ∈ g_w := ⟨g_w_mem (List.mem_of_getElem? (i := 431) (by decide +kernel)) (by decide +kernel), g_w_mem (List.mem_of_getElem? (i := 11) (by decide +kernel)) (by decide +kernel)⟩
theorem MY_X7_keyword : g_MY yX7_keyword cX7_keyword 2 (some .boolean) 1 := ⟨g_w_mem (List.mem_of_getElem? (i := 383) (by decide +kernel)) (by decide +kernel), g_w_mem (List.mem_of_getElem? (i := 21) (by decide +kernel)) (by decide +kernel), by decide +kernel, by decide +kernel, by decide +kernel⟩
theorem MI_X7_keyword : Cond.instanceMethod yX7_keyword ∈ g_w ∧ Cond.selects yX7_keyword.cls yX7_keyword yX7_keyword ∈ g_w := ⟨g_w_mem (List.mem_of_getElem? (i := 382) (by decide +kernel)) (by decide +kernel), g_w_mem (List.mem_of_getElem? (i := 3) (by decide +kernel)) (by decide +kernel)⟩
theorem MY_X7_newName : g_MY yX7_newName cX7_newName 3 (some .boolean) 1 := ⟨g_w_mem (List.mem_of_getElem? (i := 409) (by decide +kernel)) (by decide +kernel), g_w_mem (List.mem_of_getElem? (i := 21) (by decide +kernel)) (by decide +kernel), by decide +kernel, by decide +kernel, by decide +kernel⟩
theorem MI_X7_newName : Cond.instanceMethod yX7_newName ∈ g_w ∧ Cond.selects yX7_newName.cls yX7_newName yX7_newName ∈ g_w := ⟨g_w_mem (List.mem_of_getElem? (i := 408) (by decide +kernel)) (by decide +kernel), g_w_mem (List.mem_of_getElem? (i := 8) (by decide +kernel)) (by decide +kernel)⟩
theorem MY_X7_numberUpTo : g_MY yX7_numberUpTo cX7_numberUpTo 2 (some .boolean) 1 := ⟨g_w_mem (List.mem_of_getElem? (i := 428) (by decide +kernel)) (by decide +kernel), g_w_mem (List.mem_of_getElem? (i := 21) (by decide +kernel)) (by decide +kernel), by decide +kernel, by decide +kernel, by decide +kernel⟩
theorem MI_X7_numberUpTo : Cond.instanceMethod yX7_numberUpTo ∈ g_w ∧ Cond.selects yX7_numberUpTo.cls yX7_numberUpTo yX7_numberUpTo ∈ g_w := ⟨g_w_mem (List.mem_of_getElem? (i := 427) (by decide +kernel)) (by decide +kernel), g_w_mem (List.mem_of_getElem? (i := 10) (by decide +kernel)) (by decide +kernel)⟩
theorem MY_X7_pasture : g_MY yX7_pasture cX7_pasture 3 (some .boolean) 1 := ⟨g_w_mem (List.mem_of_getElem? (i := 404) (by decide +kernel)) (by decide +kernel), g_w_mem (List.mem_of_getElem? (i := 21) (by decide +kernel)) (by decide +kernel), by decide +kernel, by decide +kernel, by decide +kernel⟩
theorem MI_X7_pasture : Cond.instanceMethod yX7_pasture ∈ g_w ∧ Cond.selects yX7_pasture.cls yX7_pasture yX7_pasture ∈ g_w := ⟨g_w_mem (List.mem_of_getElem? (i := 403) (by decide +kernel)) (by decide +kernel), g_w_mem (List.mem_of_getElem? (i := 7) (by decide +kernel)) (by decide +kernel)⟩
theorem MY_X7_pastures : g_MY yX7_pastures cX7_pastures 3 (some .boolean) 1 := ⟨g_w_mem (List.mem_of_getElem? (i := 400) (by decide +kernel)) (by decide +kernel), g_w_mem (List.mem_of_getElem? (i := 21) (by decide +kernel)) (by decide +kernel), by decide +kernel, by decide +kernel, by decide +kernel⟩
theorem MI_X7_pastures : Cond.instanceMethod yX7_pastures ∈ g_w ∧ Cond.selects yX7_pastures.cls yX7_pastures yX7_pastures ∈ g_w := ⟨g_w_mem (List.mem_of_getElem? (i := 399) (by decide +kernel)) (by decide +kernel), g_w_mem (List.mem_of_getElem? (i := 6) (by decide +kernel)) (by decide +kernel)⟩
theorem MY_X7_readSetup : g_MY yX7_readSetup cX7_readSetup 2 (some .boolean) 1 := ⟨g_w_mem (List.mem_of_getElem? (i := 342) (by decide +kernel)) (by decide +kernel), g_w_mem (List.mem_of_getElem? (i := 21) (by decide +kernel)) (by decide +kernel), by decide +kernel, by decide +kernel, by decide +kernel⟩
theorem MI_X7_readSetup : Cond.instanceMethod yX7_readSetup ∈ g_w ∧ Cond.selects yX7_readSetup.cls yX7_readSetup yX7_readSetup ∈ g_w := ⟨g_w_mem (List.mem_of_getElem? (i := 340) (by decide +kernel)) (by decide +kernel), g_w_mem (List.mem_of_getElem? (i := 341) (by decide +kernel)) (by decide +kernel)⟩
theorem MY_X7_semicolon : g_MY yX7_semicolon cX7_semicolon 1 (some .boolean) 0 := ⟨g_w_mem (List.mem_of_getElem? (i := 396) (by decide +kernel)) (by decide +kernel), g_w_mem (List.mem_of_getElem? (i := 21) (by decide +kernel)) (by decide +kernel), by decide +kernel, by decide +kernel, by decide +kernel⟩
theorem MI_X7_semicolon : Cond.instanceMethod yX7_semicolon ∈ g_w ∧ Cond.selects yX7_semicolon.cls yX7_semicolon yX7_semicolon ∈ g_w := ⟨g_w_mem (List.mem_of_getElem? (i := 395) (by decide +kernel)) (by decide +kernel), g_w_mem (List.mem_of_getElem? (i := 5) (by decide +kernel)) (by decide +kernel)⟩
theorem MY_X7_start : g_MY yX7_start cX7_start 1 none 0 := ⟨g_w_mem (List.mem_of_getElem? (i := 346) (by decide +kernel)) (by decide +kernel), g_w_mem (List.mem_of_getElem? (i := 21) (by decide +kernel)) (by decide +kernel), by decide +kernel, by decide +kernel, by decide +kernel⟩
theorem MI_X7_start : Cond.instanceMethod yX7_start ∈ g_w ∧ Cond.selects yX7_start.cls yX7_start yX7_start ∈ g_w := ⟨g_w_mem (List.mem_of_getElem? (i := 345) (by decide +kernel)) (by decide +kernel), g_w_mem (List.mem_of_getElem? (i := 1) (by decide +kernel)) (by decide +kernel)⟩
theorem MY_X9_cell : g_MY yX9_cell cX9_cell 2 (some .int) 2 := ⟨g_w_mem (List.mem_of_getElem? (i := 374) (by decide +kernel)) (by decide +kernel), g_w_mem (List.mem_of_getElem? (i := 26) (by decide +kernel)) (by decide +kernel), by decide +kernel, by decide +kernel, by decide +kernel⟩
theorem MS_X9_cell : Cond.static yX9_cell ∈ g_w := g_w_mem (List.mem_of_getElem? (i := 373) (by decide +kernel)) (by decide +kernel)
theorem MY_X9_clear : g_MY yX9_clear cX9_clear 3 none 0 := ⟨g_w_mem (List.mem_of_getElem? (i := 371) (by decide +kernel)) (by decide +kernel), g_w_mem (List.mem_of_getElem? (i := 26) (by decide +kernel)) (by decide +kernel), by decide +kernel, by decide +kernel, by decide +kernel⟩
theorem MI_X9_clear : Cond.instanceMethod yX9_clear ∈ g_w ∧ Cond.selects yX9_clear.cls yX9_clear yX9_clear ∈ g_w := ⟨g_w_mem (List.mem_of_getElem? (i := 369) (by decide +kernel)) (by decide +kernel), g_w_mem (List.mem_of_getElem? (i := 370) (by decide +kernel)) (by decide +kernel)⟩
theorem MY_X9_copyFrom : g_MY yX9_copyFrom cX9_copyFrom 2 none 1 := ⟨g_w_mem (List.mem_of_getElem? (i := 545) (by decide +kernel)) (by decide +kernel), g_w_mem (List.mem_of_getElem? (i := 26) (by decide +kernel)) (by decide +kernel), by decide +kernel, by decide +kernel, by decide +kernel⟩
theorem MI_X9_copyFrom : Cond.instanceMethod yX9_copyFrom ∈ g_w ∧ Cond.selects yX9_copyFrom.cls yX9_copyFrom yX9_copyFrom ∈ g_w := ⟨g_w_mem (List.mem_of_getElem? (i := 543) (by decide +kernel)) (by decide +kernel), g_w_mem (List.mem_of_getElem? (i := 544) (by decide +kernel)) (by decide +kernel)⟩
theorem MY_X9_excessiveAllocations : g_MY yX9_excessiveAllocations cX9_excessiveAllocations 4 (some .int) 0 := ⟨g_w_mem (List.mem_of_getElem? (i := 855) (by decide +kernel)) (by decide +kernel), g_w_mem (List.mem_of_getElem? (i := 26) (by decide +kernel)) (by decide +kernel), by decide +kernel, by decide +kernel, by decide +kernel⟩
theorem MI_X9_excessiveAllocations : Cond.instanceMethod yX9_excessiveAllocations ∈ g_w ∧ Cond.selects yX9_excessiveAllocations.cls yX9_excessiveAllocations yX9_excessiveAllocations ∈ g_w := ⟨g_w_mem (List.mem_of_getElem? (i := 853) (by decide +kernel)) (by decide +kernel), g_w_mem (List.mem_of_getElem? (i := 854) (by decide +kernel)) (by decide +kernel)⟩
theorem MY_X9_freeUnits : g_MY yX9_freeUnits cX9_freeUnits 2 (some .int) 1 := ⟨g_w_mem (List.mem_of_getElem? (i := 843) (by decide +kernel)) (by decide +kernel), g_w_mem (List.mem_of_getElem? (i := 26) (by decide +kernel)) (by decide +kernel), by decide +kernel, by decide +kernel, by decide +kernel⟩
theorem MI_X9_freeUnits : Cond.instanceMethod yX9_freeUnits ∈ g_w ∧ Cond.selects yX9_freeUnits.cls yX9_freeUnits yX9_freeUnits ∈ g_w := ⟨g_w_mem (List.mem_of_getElem? (i := 841) (by decide +kernel)) (by decide +kernel), g_w_mem (List.mem_of_getElem? (i := 842) (by decide +kernel)) (by decide +kernel)⟩
theorem MY_X9_heldUnits : g_MY yX9_heldUnits cX9_heldUnits 4 (some .int) 1 := ⟨g_w_mem (List.mem_of_getElem? (i := 847) (by decide +kernel)) (by decide +kernel), g_w_mem (List.mem_of_getElem? (i := 26) (by decide +kernel)) (by decide +kernel), by decide +kernel, by decide +kernel, by decide +kernel⟩
theorem MI_X9_heldUnits : Cond.instanceMethod yX9_heldUnits ∈ g_w ∧ Cond.selects yX9_heldUnits.cls yX9_heldUnits yX9_heldUnits ∈ g_w := ⟨g_w_mem (List.mem_of_getElem? (i := 845) (by decide +kernel)) (by decide +kernel), g_w_mem (List.mem_of_getElem? (i := 846) (by decide +kernel)) (by decide +kernel)⟩
theorem MY_X9_joinQueue : g_MY yX9_joinQueue cX9_joinQueue 4 none 3 := ⟨g_w_mem (List.mem_of_getElem? (i := 679) (by decide +kernel)) (by decide +kernel), g_w_mem (List.mem_of_getElem? (i := 26) (by decide +kernel)) (by decide +kernel), by decide +kernel, by decide +kernel, by decide +kernel⟩
theorem MI_X9_joinQueue : Cond.instanceMethod yX9_joinQueue ∈ g_w ∧ Cond.selects yX9_joinQueue.cls yX9_joinQueue yX9_joinQueue ∈ g_w := ⟨g_w_mem (List.mem_of_getElem? (i := 677) (by decide +kernel)) (by decide +kernel), g_w_mem (List.mem_of_getElem? (i := 678) (by decide +kernel)) (by decide +kernel)⟩
theorem MY_X9_leaveQueue : g_MY yX9_leaveQueue cX9_leaveQueue 4 none 1 := ⟨g_w_mem (List.mem_of_getElem? (i := 699) (by decide +kernel)) (by decide +kernel), g_w_mem (List.mem_of_getElem? (i := 26) (by decide +kernel)) (by decide +kernel), by decide +kernel, by decide +kernel, by decide +kernel⟩
theorem MI_X9_leaveQueue : Cond.instanceMethod yX9_leaveQueue ∈ g_w ∧ Cond.selects yX9_leaveQueue.cls yX9_leaveQueue yX9_leaveQueue ∈ g_w := ⟨g_w_mem (List.mem_of_getElem? (i := 697) (by decide +kernel)) (by decide +kernel), g_w_mem (List.mem_of_getElem? (i := 698) (by decide +kernel)) (by decide +kernel)⟩
theorem MY_X9_openClaim : g_MY yX9_openClaim cX9_openClaim 3 (some .int) 2 := ⟨g_w_mem (List.mem_of_getElem? (i := 611) (by decide +kernel)) (by decide +kernel), g_w_mem (List.mem_of_getElem? (i := 26) (by decide +kernel)) (by decide +kernel), by decide +kernel, by decide +kernel, by decide +kernel⟩
theorem MI_X9_openClaim : Cond.instanceMethod yX9_openClaim ∈ g_w ∧ Cond.selects yX9_openClaim.cls yX9_openClaim yX9_openClaim ∈ g_w := ⟨g_w_mem (List.mem_of_getElem? (i := 609) (by decide +kernel)) (by decide +kernel), g_w_mem (List.mem_of_getElem? (i := 610) (by decide +kernel)) (by decide +kernel)⟩
theorem MY_X9_waits : g_MY yX9_waits cX9_waits 2 (some .boolean) 1 := ⟨g_w_mem (List.mem_of_getElem? (i := 645) (by decide +kernel)) (by decide +kernel), g_w_mem (List.mem_of_getElem? (i := 26) (by decide +kernel)) (by decide +kernel), by decide +kernel, by decide +kernel, by decide +kernel⟩
theorem MI_X9_waits : Cond.instanceMethod yX9_waits ∈ g_w ∧ Cond.selects yX9_waits.cls yX9_waits yX9_waits ∈ g_w := ⟨g_w_mem (List.mem_of_getElem? (i := 643) (by decide +kernel)) (by decide +kernel), g_w_mem (List.mem_of_getElem? (i := 644) (by decide +kernel)) (by decide +kernel)⟩
theorem MY_X9_wanted : g_MY yX9_wanted cX9_wanted 3 (some .int) 2 := ⟨g_w_mem (List.mem_of_getElem? (i := 1179) (by decide +kernel)) (by decide +kernel), g_w_mem (List.mem_of_getElem? (i := 26) (by decide +kernel)) (by decide +kernel), by decide +kernel, by decide +kernel, by decide +kernel⟩
theorem MI_X9_wanted : Cond.instanceMethod yX9_wanted ∈ g_w ∧ Cond.selects yX9_wanted.cls yX9_wanted yX9_wanted ∈ g_w := ⟨g_w_mem (List.mem_of_getElem? (i := 1177) (by decide +kernel)) (by decide +kernel), g_w_mem (List.mem_of_getElem? (i := 1178) (by decide +kernel)) (by decide +kernel)⟩
theorem ML_RX10_75 : Cond.methodLink RX10 75 yX7_readSetup ∈ g_w := g_w_mem (List.mem_of_getElem? (i := 339) (by decide +kernel)) (by decide +kernel)
theorem ML_RX10_89 : Cond.methodLink RX10 89 yX4_putFourBytes ∈ g_w := g_w_mem (List.mem_of_getElem? (i := 896) (by decide +kernel)) (by decide +kernel)
theorem ML_RX10_100 : Cond.methodLink RX10 100 yX9_copyFrom ∈ g_w := g_w_mem (List.mem_of_getElem? (i := 542) (by decide +kernel)) (by decide +kernel)
theorem ML_RX10_123 : Cond.methodLink RX10 123 yX2_ofPasture ∈ g_w := g_w_mem (List.mem_of_getElem? (i := 802) (by decide +kernel)) (by decide +kernel)
theorem ML_RX10_129 : Cond.methodLink RX10 129 yX10_refuse ∈ g_w := g_w_mem (List.mem_of_getElem? (i := 567) (by decide +kernel)) (by decide +kernel)
theorem ML_RX10_136 : Cond.methodLink RX10 136 yX9_freeUnits ∈ g_w := g_w_mem (List.mem_of_getElem? (i := 840) (by decide +kernel)) (by decide +kernel)
theorem ML_RX10_140 : Cond.methodLink RX10 140 yX2_ofHerdOrPasture ∈ g_w := g_w_mem (List.mem_of_getElem? (i := 560) (by decide +kernel)) (by decide +kernel)
theorem ML_RX10_147 : Cond.methodLink RX10 147 yX9_cell ∈ g_w := g_w_mem (List.mem_of_getElem? (i := 603) (by decide +kernel)) (by decide +kernel)
theorem ML_RX10_154 : Cond.methodLink RX10 154 yX9_openClaim ∈ g_w := g_w_mem (List.mem_of_getElem? (i := 608) (by decide +kernel)) (by decide +kernel)
theorem ML_RX10_177 : Cond.methodLink RX10 177 yX0_allCanFinish ∈ g_w := g_w_mem (List.mem_of_getElem? (i := 616) (by decide +kernel)) (by decide +kernel)
theorem ML_RX10_183 : Cond.methodLink RX10 183 yX2_ofHerd ∈ g_w := g_w_mem (List.mem_of_getElem? (i := 639) (by decide +kernel)) (by decide +kernel)
theorem ML_RX10_213 : Cond.methodLink RX10 213 yX9_waits ∈ g_w := g_w_mem (List.mem_of_getElem? (i := 642) (by decide +kernel)) (by decide +kernel)
theorem ML_RX10_223 : Cond.methodLink RX10 223 yX2_ofTwoHerds ∈ g_w := g_w_mem (List.mem_of_getElem? (i := 1189) (by decide +kernel)) (by decide +kernel)
theorem ML_RX10_246 : Cond.methodLink RX10 246 yX1_owed ∈ g_w := g_w_mem (List.mem_of_getElem? (i := 1204) (by decide +kernel)) (by decide +kernel)
theorem ML_RX10_254 : Cond.methodLink RX10 254 yX1_cycleClosedBy ∈ g_w := g_w_mem (List.mem_of_getElem? (i := 1192) (by decide +kernel)) (by decide +kernel)
theorem ML_RX10_285 : Cond.methodLink RX10 285 yX9_excessiveAllocations ∈ g_w := g_w_mem (List.mem_of_getElem? (i := 852) (by decide +kernel)) (by decide +kernel)
theorem ML_RX10_288 : Cond.methodLink RX10 288 yX1_herdsInCycles ∈ g_w := g_w_mem (List.mem_of_getElem? (i := 857) (by decide +kernel)) (by decide +kernel)
theorem ML_RX10_291 : Cond.methodLink RX10 291 yX2_ofRequest ∈ g_w := g_w_mem (List.mem_of_getElem? (i := 650) (by decide +kernel)) (by decide +kernel)
theorem ML_RX10_294 : Cond.methodLink RX10 294 yX3_remember ∈ g_w := g_w_mem (List.mem_of_getElem? (i := 658) (by decide +kernel)) (by decide +kernel)
theorem ML_RX10_297 : Cond.methodLink RX10 297 yX0_grantOrQueue ∈ g_w := g_w_mem (List.mem_of_getElem? (i := 666) (by decide +kernel)) (by decide +kernel)
theorem ML_RX10_301 : Cond.methodLink RX10 301 yX2_ofRelease ∈ g_w := g_w_mem (List.mem_of_getElem? (i := 684) (by decide +kernel)) (by decide +kernel)
theorem ML_RX10_304 : Cond.methodLink RX10 304 yX0_takeBack ∈ g_w := g_w_mem (List.mem_of_getElem? (i := 688) (by decide +kernel)) (by decide +kernel)
theorem ML_RX10_307 : Cond.methodLink RX10 307 yX0_takeBackAll ∈ g_w := g_w_mem (List.mem_of_getElem? (i := 704) (by decide +kernel)) (by decide +kernel)
theorem ML_RX10_310 : Cond.methodLink RX10 310 yX2_ofCancel ∈ g_w := g_w_mem (List.mem_of_getElem? (i := 1145) (by decide +kernel)) (by decide +kernel)
theorem ML_RX10_313 : Cond.methodLink RX10 313 yX0_withdrawRequest ∈ g_w := g_w_mem (List.mem_of_getElem? (i := 1148) (by decide +kernel)) (by decide +kernel)
theorem ML_RX10_316 : Cond.methodLink RX10 316 yX2_ofCapacity ∈ g_w := g_w_mem (List.mem_of_getElem? (i := 1159) (by decide +kernel)) (by decide +kernel)
theorem ML_RX10_319 : Cond.methodLink RX10 319 yX0_resize ∈ g_w := g_w_mem (List.mem_of_getElem? (i := 1163) (by decide +kernel)) (by decide +kernel)
theorem ML_RX10_322 : Cond.methodLink RX10 322 yX2_ofMaximum ∈ g_w := g_w_mem (List.mem_of_getElem? (i := 1173) (by decide +kernel)) (by decide +kernel)
theorem ML_RX10_325 : Cond.methodLink RX10 325 yX0_changeClaim ∈ g_w := g_w_mem (List.mem_of_getElem? (i := 1181) (by decide +kernel)) (by decide +kernel)
theorem ML_RX10_328 : Cond.methodLink RX10 328 yX2_ofLoan ∈ g_w := g_w_mem (List.mem_of_getElem? (i := 1209) (by decide +kernel)) (by decide +kernel)
theorem ML_RX10_331 : Cond.methodLink RX10 331 yX1_change ∈ g_w := g_w_mem (List.mem_of_getElem? (i := 1217) (by decide +kernel)) (by decide +kernel)
theorem ML_RX10_335 : Cond.methodLink RX10 335 yX2_ofRepayment ∈ g_w := g_w_mem (List.mem_of_getElem? (i := 1225) (by decide +kernel)) (by decide +kernel)
theorem ML_RX0_42 : Cond.methodLink RX0 42 yX0_startWithAvailable ∈ g_w := g_w_mem (List.mem_of_getElem? (i := 620) (by decide +kernel)) (by decide +kernel)
theorem ML_RX0_46 : Cond.methodLink RX0 46 yX0_finishesWithFree ∈ g_w := g_w_mem (List.mem_of_getElem? (i := 627) (by decide +kernel)) (by decide +kernel)
theorem ML_RX0_50 : (RX0, 50, yX10_isIn) ∈ g_nl := List.mem_of_getElem? (i := 0) rfl
theorem ML_RX0_54 : Cond.methodLink RX0 54 yX0_addAllocations ∈ g_w := g_w_mem (List.mem_of_getElem? (i := 631) (by decide +kernel)) (by decide +kernel)
theorem ML_RX0_58 : Cond.methodLink RX0 58 yX9_cell ∈ g_w := g_w_mem (List.mem_of_getElem? (i := 674) (by decide +kernel)) (by decide +kernel)
theorem ML_RX0_62 : Cond.methodLink RX0 62 yX0_allCanFinish ∈ g_w := g_w_mem (List.mem_of_getElem? (i := 675) (by decide +kernel)) (by decide +kernel)
theorem ML_RX0_66 : Cond.methodLink RX0 66 yX9_waits ∈ g_w := g_w_mem (List.mem_of_getElem? (i := 708) (by decide +kernel)) (by decide +kernel)
theorem ML_RX0_77 : Cond.methodLink RX0 77 yX0_isGrantable ∈ g_w := g_w_mem (List.mem_of_getElem? (i := 670) (by decide +kernel)) (by decide +kernel)
theorem ML_RX0_106 : Cond.methodLink RX0 106 yX9_joinQueue ∈ g_w := g_w_mem (List.mem_of_getElem? (i := 676) (by decide +kernel)) (by decide +kernel)
theorem ML_RX0_113 : Cond.methodLink RX0 113 yX0_serveQueue ∈ g_w := g_w_mem (List.mem_of_getElem? (i := 692) (by decide +kernel)) (by decide +kernel)
theorem ML_RX0_117 : Cond.methodLink RX0 117 yX9_leaveQueue ∈ g_w := g_w_mem (List.mem_of_getElem? (i := 696) (by decide +kernel)) (by decide +kernel)
theorem MLa_RX1_15 : Cond.methodLink RX1 15 arraycopyName ∈ g_w ∧ Cond.native arraycopyName ∈ g_w ∧ Cond.static arraycopyName ∈ g_w ∧ Cond.initialized "java/lang/System" ∈ g_w := ⟨g_w_mem (List.mem_of_getElem? (i := 555) (by decide +kernel)) (by decide +kernel), g_w_mem (List.mem_of_getElem? (i := 424) (by decide +kernel)) (by decide +kernel), g_w_mem (List.mem_of_getElem? (i := 423) (by decide +kernel)) (by decide +kernel), g_w_mem (List.mem_of_getElem? (i := 34) (by decide +kernel)) (by decide +kernel)⟩
theorem ML_RX1_21 : (RX1, 21, yX10_isIn) ∈ g_nl := List.mem_of_getElem? (i := 1) rfl
theorem ML_RX1_25 : Cond.methodLink RX1 25 yX1_owed ∈ g_w := g_w_mem (List.mem_of_getElem? (i := 869) (by decide +kernel)) (by decide +kernel)
theorem ML_RX1_29 : Cond.methodLink RX1 29 yX1_debtorsOf ∈ g_w := g_w_mem (List.mem_of_getElem? (i := 865) (by decide +kernel)) (by decide +kernel)
theorem ML_RX1_33 : Cond.methodLink RX1 33 yX1_herdsReaching ∈ g_w := g_w_mem (List.mem_of_getElem? (i := 861) (by decide +kernel)) (by decide +kernel)
theorem ML_RX1_36 : Cond.methodLink RX1 36 yX1_creditorsOf ∈ g_w := g_w_mem (List.mem_of_getElem? (i := 1196) (by decide +kernel)) (by decide +kernel)
theorem ML_RX2_15 : Cond.methodLink RX2 15 yX5_has ∈ g_w := g_w_mem (List.mem_of_getElem? (i := 563) (by decide +kernel)) (by decide +kernel)
theorem ML_RX2_28 : Cond.methodLink RX2 28 yX2_ofUnits ∈ g_w := g_w_mem (List.mem_of_getElem? (i := 653) (by decide +kernel)) (by decide +kernel)
theorem ML_RX2_34 : Cond.methodLink RX2 34 yX9_waits ∈ g_w := g_w_mem (List.mem_of_getElem? (i := 656) (by decide +kernel)) (by decide +kernel)
theorem ML_RX2_37 : Cond.methodLink RX2 37 yX9_openClaim ∈ g_w := g_w_mem (List.mem_of_getElem? (i := 657) (by decide +kernel)) (by decide +kernel)
theorem ML_RX2_44 : Cond.methodLink RX2 44 yX9_cell ∈ g_w := g_w_mem (List.mem_of_getElem? (i := 687) (by decide +kernel)) (by decide +kernel)
theorem ML_RX2_47 : Cond.methodLink RX2 47 yX9_heldUnits ∈ g_w := g_w_mem (List.mem_of_getElem? (i := 1162) (by decide +kernel)) (by decide +kernel)
theorem ML_RX2_51 : Cond.methodLink RX2 51 yX9_wanted ∈ g_w := g_w_mem (List.mem_of_getElem? (i := 1176) (by decide +kernel)) (by decide +kernel)
theorem ML_RX2_54 : Cond.methodLink RX2 54 yX2_ofCoins ∈ g_w := g_w_mem (List.mem_of_getElem? (i := 1212) (by decide +kernel)) (by decide +kernel)
theorem ML_RX2_61 : Cond.methodLink RX2 61 yX1_cycleClosedBy ∈ g_w := g_w_mem (List.mem_of_getElem? (i := 1215) (by decide +kernel)) (by decide +kernel)
theorem ML_RX2_66 : Cond.methodLink RX2 66 yX1_owed ∈ g_w := g_w_mem (List.mem_of_getElem? (i := 1216) (by decide +kernel)) (by decide +kernel)
theorem ML_RX3_22 : Cond.methodLink RX3 22 yX9_copyFrom ∈ g_w := g_w_mem (List.mem_of_getElem? (i := 662) (by decide +kernel)) (by decide +kernel)
theorem MLm_RX3_29 : g_Mm RX3 29 Lib.Math.min.name Lib.Math.min.code := ⟨g_w_mem (List.mem_of_getElem? (i := 663) (by decide +kernel)) (by decide +kernel), g_w_mem (List.mem_of_getElem? (i := 664) (by decide +kernel)) (by decide +kernel), g_w_mem (List.mem_of_getElem? (i := 38) (by decide +kernel)) (by decide +kernel), g_w_mem (List.mem_of_getElem? (i := 665) (by decide +kernel)) (by decide +kernel)⟩
theorem ML_RX4_25 : Cond.methodLink RX4 25 yX4_put ∈ g_w := g_w_mem (List.mem_of_getElem? (i := 335) (by decide +kernel)) (by decide +kernel)
theorem ML_RX4_35 : Cond.methodLink RX4 35 yX4_readNext ∈ g_w := g_w_mem (List.mem_of_getElem? (i := 351) (by decide +kernel)) (by decide +kernel)
theorem ML_RX4_41 : Cond.methodLink RX4 41 yX4_isSeparator ∈ g_w := g_w_mem (List.mem_of_getElem? (i := 355) (by decide +kernel)) (by decide +kernel)
theorem ML_RX4_45 : Cond.methodLink RX4 45 yX4_isLetter ∈ g_w := g_w_mem (List.mem_of_getElem? (i := 358) (by decide +kernel)) (by decide +kernel)
theorem ML_RX4_54 : Cond.methodLink RX4 54 yX4_isDigit ∈ g_w := g_w_mem (List.mem_of_getElem? (i := 361) (by decide +kernel)) (by decide +kernel)
theorem ML_RX4_57 : Cond.methodLink RX4 57 yX4_readSign ∈ g_w := g_w_mem (List.mem_of_getElem? (i := 364) (by decide +kernel)) (by decide +kernel)
theorem MLa_RX5_19 : Cond.methodLink RX5 19 arraycopyName ∈ g_w ∧ Cond.native arraycopyName ∈ g_w ∧ Cond.static arraycopyName ∈ g_w ∧ Cond.initialized "java/lang/System" ∈ g_w := ⟨g_w_mem (List.mem_of_getElem? (i := 422) (by decide +kernel)) (by decide +kernel), g_w_mem (List.mem_of_getElem? (i := 424) (by decide +kernel)) (by decide +kernel), g_w_mem (List.mem_of_getElem? (i := 423) (by decide +kernel)) (by decide +kernel), g_w_mem (List.mem_of_getElem? (i := 34) (by decide +kernel)) (by decide +kernel)⟩
theorem ML_RX5_29 : Cond.methodLink RX5 29 yX5_isAt ∈ g_w := g_w_mem (List.mem_of_getElem? (i := 414) (by decide +kernel)) (by decide +kernel)
theorem ML_RX7_25 : Cond.methodLink RX7 25 yX4_readFirst ∈ g_w := g_w_mem (List.mem_of_getElem? (i := 347) (by decide +kernel)) (by decide +kernel)
theorem ML_RX7_31 : Cond.methodLink RX7 31 yX7_start ∈ g_w := g_w_mem (List.mem_of_getElem? (i := 343) (by decide +kernel)) (by decide +kernel)
theorem ML_RX7_33 : Cond.methodLink RX7 33 yX9_clear ∈ g_w := g_w_mem (List.mem_of_getElem? (i := 368) (by decide +kernel)) (by decide +kernel)
theorem ML_RX7_40 : Cond.methodLink RX7 40 yX7_keyword ∈ g_w := g_w_mem (List.mem_of_getElem? (i := 380) (by decide +kernel)) (by decide +kernel)
theorem ML_RX7_44 : Cond.methodLink RX7 44 yX7_semicolon ∈ g_w := g_w_mem (List.mem_of_getElem? (i := 393) (by decide +kernel)) (by decide +kernel)
theorem ML_RX7_48 : Cond.methodLink RX7 48 yX7_pastures ∈ g_w := g_w_mem (List.mem_of_getElem? (i := 397) (by decide +kernel)) (by decide +kernel)
theorem ML_RX7_52 : Cond.methodLink RX7 52 yX7_herds ∈ g_w := g_w_mem (List.mem_of_getElem? (i := 429) (by decide +kernel)) (by decide +kernel)
theorem ML_RX7_55 : Cond.methodLink RX7 55 yX7_pasture ∈ g_w := g_w_mem (List.mem_of_getElem? (i := 401) (by decide +kernel)) (by decide +kernel)
theorem ML_RX7_59 : Cond.methodLink RX7 59 yX4_isWord ∈ g_w := g_w_mem (List.mem_of_getElem? (i := 384) (by decide +kernel)) (by decide +kernel)
theorem ML_RX7_62 : Cond.methodLink RX7 62 yX7_fail ∈ g_w := g_w_mem (List.mem_of_getElem? (i := 388) (by decide +kernel)) (by decide +kernel)
theorem ML_RX7_74 : Cond.methodLink RX7 74 yX7_newName ∈ g_w := g_w_mem (List.mem_of_getElem? (i := 406) (by decide +kernel)) (by decide +kernel)
theorem ML_RX7_78 : Cond.methodLink RX7 78 yX7_numberUpTo ∈ g_w := g_w_mem (List.mem_of_getElem? (i := 425) (by decide +kernel)) (by decide +kernel)
theorem ML_RX7_88 : Cond.methodLink RX7 88 yX4_readNext ∈ g_w := g_w_mem (List.mem_of_getElem? (i := 392) (by decide +kernel)) (by decide +kernel)
theorem ML_RX7_91 : Cond.methodLink RX7 91 yX7_herd ∈ g_w := g_w_mem (List.mem_of_getElem? (i := 433) (by decide +kernel)) (by decide +kernel)
theorem ML_RX7_103 : Cond.methodLink RX7 103 yX9_cell ∈ g_w := g_w_mem (List.mem_of_getElem? (i := 438) (by decide +kernel)) (by decide +kernel)
theorem ML_RX7_143 : Cond.methodLink RX7 143 yX5_find ∈ g_w := g_w_mem (List.mem_of_getElem? (i := 410) (by decide +kernel)) (by decide +kernel)
theorem ML_RX7_147 : Cond.methodLink RX7 147 yX5_add ∈ g_w := g_w_mem (List.mem_of_getElem? (i := 418) (by decide +kernel)) (by decide +kernel)
theorem ML_RX9_47 : Cond.methodLink RX9 47 yX5_copyFrom ∈ g_w := g_w_mem (List.mem_of_getElem? (i := 546) (by decide +kernel)) (by decide +kernel)
theorem MLa_RX9_51 : Cond.methodLink RX9 51 arraycopyName ∈ g_w ∧ Cond.native arraycopyName ∈ g_w ∧ Cond.static arraycopyName ∈ g_w ∧ Cond.initialized "java/lang/System" ∈ g_w := ⟨g_w_mem (List.mem_of_getElem? (i := 550) (by decide +kernel)) (by decide +kernel), g_w_mem (List.mem_of_getElem? (i := 424) (by decide +kernel)) (by decide +kernel), g_w_mem (List.mem_of_getElem? (i := 423) (by decide +kernel)) (by decide +kernel), g_w_mem (List.mem_of_getElem? (i := 34) (by decide +kernel)) (by decide +kernel)⟩
theorem ML_RX9_61 : Cond.methodLink RX9 61 yX1_copyFrom ∈ g_w := g_w_mem (List.mem_of_getElem? (i := 551) (by decide +kernel)) (by decide +kernel)
theorem ML_RX9_79 : Cond.methodLink RX9 79 yX9_cell ∈ g_w := g_w_mem (List.mem_of_getElem? (i := 372) (by decide +kernel)) (by decide +kernel)
theorem ML_RX9_83 : Cond.methodLink RX9 83 yX1_clear ∈ g_w := g_w_mem (List.mem_of_getElem? (i := 375) (by decide +kernel)) (by decide +kernel)
theorem ML_RX9_86 : Cond.methodLink RX9 86 yX9_heldUnits ∈ g_w := g_w_mem (List.mem_of_getElem? (i := 844) (by decide +kernel)) (by decide +kernel)
theorem ML_RX9_90 : Cond.methodLink RX9 90 yX9_waits ∈ g_w := g_w_mem (List.mem_of_getElem? (i := 1180) (by decide +kernel)) (by decide +kernel)
theorem ML_RX9_97 : Cond.methodLink RX9 97 yX9_openClaim ∈ g_w := g_w_mem (List.mem_of_getElem? (i := 856) (by decide +kernel)) (by decide +kernel)
theorem ML_RL_18 : Cond.methodLink RL 18 yX10_truncate ∈ g_w := g_w_mem (List.mem_of_getElem? (i := 881) (by decide +kernel)) (by decide +kernel)
theorem ML_RL_24 : Cond.methodLink RL 24 yL_word ∈ g_w := g_w_mem (List.mem_of_getElem? (i := 887) (by decide +kernel)) (by decide +kernel)
theorem ML_RL_30 : Cond.methodLink RL 30 yX10_append ∈ g_w := g_w_mem (List.mem_of_getElem? (i := 891) (by decide +kernel)) (by decide +kernel)
theorem ML_RL_63 : Cond.methodLink RL 63 yX10_herdCount ∈ g_w := g_w_mem (List.mem_of_getElem? (i := 1139) (by decide +kernel)) (by decide +kernel)
theorem ML_RL_66 : Cond.methodLink RL 66 yX10_pastureCount ∈ g_w := g_w_mem (List.mem_of_getElem? (i := 1140) (by decide +kernel)) (by decide +kernel)
theorem ML_RL_69 : Cond.methodLink RL 69 yX10_allocation ∈ g_w := g_w_mem (List.mem_of_getElem? (i := 556) (by decide +kernel)) (by decide +kernel)
theorem ML_RL_73 : Cond.methodLink RL 73 yX10_release ∈ g_w := g_w_mem (List.mem_of_getElem? (i := 680) (by decide +kernel)) (by decide +kernel)
theorem ML_RL_77 : Cond.methodLink RL 77 yX10_finish ∈ g_w := g_w_mem (List.mem_of_getElem? (i := 700) (by decide +kernel)) (by decide +kernel)
theorem ML_RL_80 : Cond.methodLink RL 80 yX10_isWaiting ∈ g_w := g_w_mem (List.mem_of_getElem? (i := 635) (by decide +kernel)) (by decide +kernel)
theorem ML_RL_84 : Cond.methodLink RL 84 yX10_cancel ∈ g_w := g_w_mem (List.mem_of_getElem? (i := 1141) (by decide +kernel)) (by decide +kernel)
theorem ML_RL_87 : Cond.methodLink RL 87 yX10_capacity ∈ g_w := g_w_mem (List.mem_of_getElem? (i := 1152) (by decide +kernel)) (by decide +kernel)
theorem ML_RL_90 : Cond.methodLink RL 90 yX10_available ∈ g_w := g_w_mem (List.mem_of_getElem? (i := 1153) (by decide +kernel)) (by decide +kernel)
theorem ML_RL_94 : Cond.methodLink RL 94 yX10_setCapacity ∈ g_w := g_w_mem (List.mem_of_getElem? (i := 1155) (by decide +kernel)) (by decide +kernel)
theorem ML_RL_97 : Cond.methodLink RL 97 yX10_requestedPasture ∈ g_w := g_w_mem (List.mem_of_getElem? (i := 1167) (by decide +kernel)) (by decide +kernel)
theorem ML_RL_100 : Cond.methodLink RL 100 yX10_requestedAmount ∈ g_w := g_w_mem (List.mem_of_getElem? (i := 1168) (by decide +kernel)) (by decide +kernel)
theorem ML_RL_103 : Cond.methodLink RL 103 yX10_setMaximum ∈ g_w := g_w_mem (List.mem_of_getElem? (i := 1169) (by decide +kernel)) (by decide +kernel)
theorem ML_RL_106 : Cond.methodLink RL 106 yX10_closedCycleLength ∈ g_w := g_w_mem (List.mem_of_getElem? (i := 1185) (by decide +kernel)) (by decide +kernel)
theorem ML_RL_109 : Cond.methodLink RL 109 yX10_debt ∈ g_w := g_w_mem (List.mem_of_getElem? (i := 1200) (by decide +kernel)) (by decide +kernel)
theorem ML_RL_112 : Cond.methodLink RL 112 yX10_lend ∈ g_w := g_w_mem (List.mem_of_getElem? (i := 1205) (by decide +kernel)) (by decide +kernel)
theorem ML_RL_115 : Cond.methodLink RL 115 yX10_repay ∈ g_w := g_w_mem (List.mem_of_getElem? (i := 1221) (by decide +kernel)) (by decide +kernel)
theorem ML_RL_118 : Cond.methodLink RL 118 yX10_need ∈ g_w := g_w_mem (List.mem_of_getElem? (i := 604) (by decide +kernel)) (by decide +kernel)
theorem ML_RL_121 : Cond.methodLink RL 121 yX10_request ∈ g_w := g_w_mem (List.mem_of_getElem? (i := 646) (by decide +kernel)) (by decide +kernel)
theorem ML_RX11_44 : Cond.methodLink RX11 44 yX10_queueLength ∈ g_w := g_w_mem (List.mem_of_getElem? (i := 761) (by decide +kernel)) (by decide +kernel)
theorem ML_RX11_50 : Cond.methodLink RX11 50 yX10_immediateGrants ∈ g_w := g_w_mem (List.mem_of_getElem? (i := 765) (by decide +kernel)) (by decide +kernel)
theorem ML_RX11_56 : Cond.methodLink RX11 56 yX10_queuedGrants ∈ g_w := g_w_mem (List.mem_of_getElem? (i := 769) (by decide +kernel)) (by decide +kernel)
theorem ML_RX11_62 : Cond.methodLink RX11 62 yX10_requestedPasture ∈ g_w := g_w_mem (List.mem_of_getElem? (i := 773) (by decide +kernel)) (by decide +kernel)
theorem ML_RX11_66 : Cond.methodLink RX11 66 yX10_requestedAmount ∈ g_w := g_w_mem (List.mem_of_getElem? (i := 777) (by decide +kernel)) (by decide +kernel)
theorem ML_RX11_69 : Cond.methodLink RX11 69 yX10_allocation ∈ g_w := g_w_mem (List.mem_of_getElem? (i := 781) (by decide +kernel)) (by decide +kernel)
theorem ML_RX11_73 : Cond.methodLink RX11 73 yX10_queuedHerd ∈ g_w := g_w_mem (List.mem_of_getElem? (i := 782) (by decide +kernel)) (by decide +kernel)
theorem ML_RX11_76 : Cond.methodLink RX11 76 yX10_capacity ∈ g_w := g_w_mem (List.mem_of_getElem? (i := 798) (by decide +kernel)) (by decide +kernel)
theorem ML_RX11_79 : Cond.methodLink RX11 79 yX11_free ∈ g_w := g_w_mem (List.mem_of_getElem? (i := 794) (by decide +kernel)) (by decide +kernel)
theorem ML_RX11_82 : Cond.methodLink RX11 82 yX10_maximum ∈ g_w := g_w_mem (List.mem_of_getElem? (i := 813) (by decide +kernel)) (by decide +kernel)
theorem ML_RX11_85 : Cond.methodLink RX11 85 yX11_canFinish ∈ g_w := g_w_mem (List.mem_of_getElem? (i := 809) (by decide +kernel)) (by decide +kernel)
theorem ML_RX11_89 : Cond.methodLink RX11 89 yX11_isSafe ∈ g_w := g_w_mem (List.mem_of_getElem? (i := 805) (by decide +kernel)) (by decide +kernel)
theorem ML_RX11_93 : Cond.methodLink RX11 93 yX11_grants ∈ g_w := g_w_mem (List.mem_of_getElem? (i := 790) (by decide +kernel)) (by decide +kernel)
theorem ML_RX11_97 : Cond.methodLink RX11 97 yX11_leave ∈ g_w := g_w_mem (List.mem_of_getElem? (i := 817) (by decide +kernel)) (by decide +kernel)
theorem ML_RX11_101 : Cond.methodLink RX11 101 yX11_process ∈ g_w := g_w_mem (List.mem_of_getElem? (i := 829) (by decide +kernel)) (by decide +kernel)
theorem ML_RX11_104 : Cond.methodLink RX11 104 yX10_isSafe ∈ g_w := g_w_mem (List.mem_of_getElem? (i := 834) (by decide +kernel)) (by decide +kernel)
theorem ML_RX11_105 : Cond.methodLink RX11 105 yX10_isWaiting ∈ g_w := g_w_mem (List.mem_of_getElem? (i := 835) (by decide +kernel)) (by decide +kernel)
theorem ML_RX11_109 : Cond.methodLink RX11 109 yX10_available ∈ g_w := g_w_mem (List.mem_of_getElem? (i := 836) (by decide +kernel)) (by decide +kernel)
theorem ML_RX11_112 : Cond.methodLink RX11 112 yX10_inconsistencies ∈ g_w := g_w_mem (List.mem_of_getElem? (i := 848) (by decide +kernel)) (by decide +kernel)
