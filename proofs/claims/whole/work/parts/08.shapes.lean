theorem sh_0 : g_sh[0]? = some (.inr (9, [some 1, some 2, some 4, some 6, some 9, some 12, some 27, some 42, some 134, some 135])) := rfl
theorem sh_1 : g_sh[1]? = some (.inr (6, [some 2, none, none])) := rfl
theorem sh_2 : g_sh[2]? = some (.inr (3, [some 3, none, none, none, none, none])) := rfl
theorem sh_3 : g_sh[3]? = some (.inl (.byte, 600, [])) := rfl
theorem sh_4 : g_sh[4]? = some (.inr (5, [some 5, none])) := rfl
theorem sh_5 : g_sh[5]? = some (.inl (.byte, 200, [])) := rfl
theorem sh_6 : g_sh[6]? = some (.inr (7, [some 7, some 8, none])) := rfl
theorem sh_7 : g_sh[7]? = some (.inl (.int, 30, [])) := rfl
theorem sh_8 : g_sh[8]? = some (.inl (.int, 90, [])) := rfl
theorem sh_9 : g_sh[9]? = some (.inr (0, [some 10, some 11])) := rfl
theorem sh_10 : g_sh[10]? = some (.inl (.int, 8, [])) := rfl
theorem sh_11 : g_sh[11]? = some (.inl (.int, 5, [])) := rfl
theorem sh_12 : g_sh[12]? = some (.inr (8, [some 13, some 16, some 19, some 20, some 21, some 22, some 23, some 24, none, some 25, none, none, none, none])) := rfl
theorem sh_13 : g_sh[13]? = some (.inr (4, [some 14, some 15, none])) := rfl
theorem sh_14 : g_sh[14]? = some (.inl (.byte, 48, [])) := rfl
theorem sh_15 : g_sh[15]? = some (.inl (.int, 8, [])) := rfl
theorem sh_16 : g_sh[16]? = some (.inr (4, [some 17, some 18, none])) := rfl
theorem sh_17 : g_sh[17]? = some (.inl (.byte, 48, [])) := rfl
theorem sh_18 : g_sh[18]? = some (.inl (.int, 8, [])) := rfl
theorem sh_19 : g_sh[19]? = some (.inl (.int, 5, [])) := rfl
theorem sh_20 : g_sh[20]? = some (.inl (.int, 40, [])) := rfl
theorem sh_21 : g_sh[21]? = some (.inl (.int, 40, [])) := rfl
theorem sh_22 : g_sh[22]? = some (.inl (.int, 8, [])) := rfl
theorem sh_23 : g_sh[23]? = some (.inl (.int, 8, [])) := rfl
theorem sh_24 : g_sh[24]? = some (.inl (.int, 8, [])) := rfl
theorem sh_25 : g_sh[25]? = some (.inr (1, [some 26])) := rfl
theorem sh_26 : g_sh[26]? = some (.inl (.int, 64, [])) := rfl
theorem sh_27 : g_sh[27]? = some (.inr (8, [some 28, some 31, some 34, some 35, some 36, some 37, some 38, some 39, none, some 40, none, none, none, none])) := rfl
theorem sh_28 : g_sh[28]? = some (.inr (4, [some 29, some 30, none])) := rfl
theorem sh_29 : g_sh[29]? = some (.inl (.byte, 48, [])) := rfl
theorem sh_30 : g_sh[30]? = some (.inl (.int, 8, [])) := rfl
theorem sh_31 : g_sh[31]? = some (.inr (4, [some 32, some 33, none])) := rfl
theorem sh_32 : g_sh[32]? = some (.inl (.byte, 48, [])) := rfl
theorem sh_33 : g_sh[33]? = some (.inl (.int, 8, [])) := rfl
theorem sh_34 : g_sh[34]? = some (.inl (.int, 5, [])) := rfl
theorem sh_35 : g_sh[35]? = some (.inl (.int, 40, [])) := rfl
theorem sh_36 : g_sh[36]? = some (.inl (.int, 40, [])) := rfl
theorem sh_37 : g_sh[37]? = some (.inl (.int, 8, [])) := rfl
theorem sh_38 : g_sh[38]? = some (.inl (.int, 8, [])) := rfl
theorem sh_39 : g_sh[39]? = some (.inl (.int, 8, [])) := rfl
theorem sh_40 : g_sh[40]? = some (.inr (1, [some 41])) := rfl
theorem sh_41 : g_sh[41]? = some (.inl (.int, 64, [])) := rfl
theorem sh_42 : g_sh[42]? = some (.inr (2, [some 43, none, none])) := rfl
theorem sh_43 : g_sh[43]? = some (.inl (.object "PastureBanker$State", 6, [44, 59, 74, 89, 104, 119])) := rfl
theorem sh_44 : g_sh[44]? = some (.inr (8, [some 45, some 48, some 51, some 52, some 53, some 54, some 55, some 56, none, some 57, none, none, none, none])) := rfl
theorem sh_45 : g_sh[45]? = some (.inr (4, [some 46, some 47, none])) := rfl
theorem sh_46 : g_sh[46]? = some (.inl (.byte, 48, [])) := rfl
theorem sh_47 : g_sh[47]? = some (.inl (.int, 8, [])) := rfl
theorem sh_48 : g_sh[48]? = some (.inr (4, [some 49, some 50, none])) := rfl
theorem sh_49 : g_sh[49]? = some (.inl (.byte, 48, [])) := rfl
theorem sh_50 : g_sh[50]? = some (.inl (.int, 8, [])) := rfl
theorem sh_51 : g_sh[51]? = some (.inl (.int, 5, [])) := rfl
theorem sh_52 : g_sh[52]? = some (.inl (.int, 40, [])) := rfl
theorem sh_53 : g_sh[53]? = some (.inl (.int, 40, [])) := rfl
theorem sh_54 : g_sh[54]? = some (.inl (.int, 8, [])) := rfl
theorem sh_55 : g_sh[55]? = some (.inl (.int, 8, [])) := rfl
theorem sh_56 : g_sh[56]? = some (.inl (.int, 8, [])) := rfl
theorem sh_57 : g_sh[57]? = some (.inr (1, [some 58])) := rfl
theorem sh_58 : g_sh[58]? = some (.inl (.int, 64, [])) := rfl
theorem sh_59 : g_sh[59]? = some (.inr (8, [some 60, some 63, some 66, some 67, some 68, some 69, some 70, some 71, none, some 72, none, none, none, none])) := rfl
theorem sh_60 : g_sh[60]? = some (.inr (4, [some 61, some 62, none])) := rfl
theorem sh_61 : g_sh[61]? = some (.inl (.byte, 48, [])) := rfl
theorem sh_62 : g_sh[62]? = some (.inl (.int, 8, [])) := rfl
theorem sh_63 : g_sh[63]? = some (.inr (4, [some 64, some 65, none])) := rfl
theorem sh_64 : g_sh[64]? = some (.inl (.byte, 48, [])) := rfl
theorem sh_65 : g_sh[65]? = some (.inl (.int, 8, [])) := rfl
theorem sh_66 : g_sh[66]? = some (.inl (.int, 5, [])) := rfl
theorem sh_67 : g_sh[67]? = some (.inl (.int, 40, [])) := rfl
theorem sh_68 : g_sh[68]? = some (.inl (.int, 40, [])) := rfl
theorem sh_69 : g_sh[69]? = some (.inl (.int, 8, [])) := rfl
theorem sh_70 : g_sh[70]? = some (.inl (.int, 8, [])) := rfl
theorem sh_71 : g_sh[71]? = some (.inl (.int, 8, [])) := rfl
theorem sh_72 : g_sh[72]? = some (.inr (1, [some 73])) := rfl
theorem sh_73 : g_sh[73]? = some (.inl (.int, 64, [])) := rfl
theorem sh_74 : g_sh[74]? = some (.inr (8, [some 75, some 78, some 81, some 82, some 83, some 84, some 85, some 86, none, some 87, none, none, none, none])) := rfl
theorem sh_75 : g_sh[75]? = some (.inr (4, [some 76, some 77, none])) := rfl
theorem sh_76 : g_sh[76]? = some (.inl (.byte, 48, [])) := rfl
theorem sh_77 : g_sh[77]? = some (.inl (.int, 8, [])) := rfl
theorem sh_78 : g_sh[78]? = some (.inr (4, [some 79, some 80, none])) := rfl
theorem sh_79 : g_sh[79]? = some (.inl (.byte, 48, [])) := rfl
theorem sh_80 : g_sh[80]? = some (.inl (.int, 8, [])) := rfl
theorem sh_81 : g_sh[81]? = some (.inl (.int, 5, [])) := rfl
theorem sh_82 : g_sh[82]? = some (.inl (.int, 40, [])) := rfl
theorem sh_83 : g_sh[83]? = some (.inl (.int, 40, [])) := rfl
theorem sh_84 : g_sh[84]? = some (.inl (.int, 8, [])) := rfl
theorem sh_85 : g_sh[85]? = some (.inl (.int, 8, [])) := rfl
theorem sh_86 : g_sh[86]? = some (.inl (.int, 8, [])) := rfl
theorem sh_87 : g_sh[87]? = some (.inr (1, [some 88])) := rfl
theorem sh_88 : g_sh[88]? = some (.inl (.int, 64, [])) := rfl
theorem sh_89 : g_sh[89]? = some (.inr (8, [some 90, some 93, some 96, some 97, some 98, some 99, some 100, some 101, none, some 102, none, none, none, none])) := rfl
theorem sh_90 : g_sh[90]? = some (.inr (4, [some 91, some 92, none])) := rfl
theorem sh_91 : g_sh[91]? = some (.inl (.byte, 48, [])) := rfl
theorem sh_92 : g_sh[92]? = some (.inl (.int, 8, [])) := rfl
theorem sh_93 : g_sh[93]? = some (.inr (4, [some 94, some 95, none])) := rfl
theorem sh_94 : g_sh[94]? = some (.inl (.byte, 48, [])) := rfl
theorem sh_95 : g_sh[95]? = some (.inl (.int, 8, [])) := rfl
theorem sh_96 : g_sh[96]? = some (.inl (.int, 5, [])) := rfl
theorem sh_97 : g_sh[97]? = some (.inl (.int, 40, [])) := rfl
theorem sh_98 : g_sh[98]? = some (.inl (.int, 40, [])) := rfl
theorem sh_99 : g_sh[99]? = some (.inl (.int, 8, [])) := rfl
theorem sh_100 : g_sh[100]? = some (.inl (.int, 8, [])) := rfl
theorem sh_101 : g_sh[101]? = some (.inl (.int, 8, [])) := rfl
theorem sh_102 : g_sh[102]? = some (.inr (1, [some 103])) := rfl
theorem sh_103 : g_sh[103]? = some (.inl (.int, 64, [])) := rfl
theorem sh_104 : g_sh[104]? = some (.inr (8, [some 105, some 108, some 111, some 112, some 113, some 114, some 115, some 116, none, some 117, none, none, none, none])) := rfl
theorem sh_105 : g_sh[105]? = some (.inr (4, [some 106, some 107, none])) := rfl
theorem sh_106 : g_sh[106]? = some (.inl (.byte, 48, [])) := rfl
theorem sh_107 : g_sh[107]? = some (.inl (.int, 8, [])) := rfl
theorem sh_108 : g_sh[108]? = some (.inr (4, [some 109, some 110, none])) := rfl
theorem sh_109 : g_sh[109]? = some (.inl (.byte, 48, [])) := rfl
theorem sh_110 : g_sh[110]? = some (.inl (.int, 8, [])) := rfl
theorem sh_111 : g_sh[111]? = some (.inl (.int, 5, [])) := rfl
theorem sh_112 : g_sh[112]? = some (.inl (.int, 40, [])) := rfl
theorem sh_113 : g_sh[113]? = some (.inl (.int, 40, [])) := rfl
theorem sh_114 : g_sh[114]? = some (.inl (.int, 8, [])) := rfl
theorem sh_115 : g_sh[115]? = some (.inl (.int, 8, [])) := rfl
theorem sh_116 : g_sh[116]? = some (.inl (.int, 8, [])) := rfl
theorem sh_117 : g_sh[117]? = some (.inr (1, [some 118])) := rfl
theorem sh_118 : g_sh[118]? = some (.inl (.int, 64, [])) := rfl
theorem sh_119 : g_sh[119]? = some (.inr (8, [some 120, some 123, some 126, some 127, some 128, some 129, some 130, some 131, none, some 132, none, none, none, none])) := rfl
theorem sh_120 : g_sh[120]? = some (.inr (4, [some 121, some 122, none])) := rfl
theorem sh_121 : g_sh[121]? = some (.inl (.byte, 48, [])) := rfl
theorem sh_122 : g_sh[122]? = some (.inl (.int, 8, [])) := rfl
theorem sh_123 : g_sh[123]? = some (.inr (4, [some 124, some 125, none])) := rfl
theorem sh_124 : g_sh[124]? = some (.inl (.byte, 48, [])) := rfl
theorem sh_125 : g_sh[125]? = some (.inl (.int, 8, [])) := rfl
theorem sh_126 : g_sh[126]? = some (.inl (.int, 5, [])) := rfl
theorem sh_127 : g_sh[127]? = some (.inl (.int, 40, [])) := rfl
theorem sh_128 : g_sh[128]? = some (.inl (.int, 40, [])) := rfl
theorem sh_129 : g_sh[129]? = some (.inl (.int, 8, [])) := rfl
theorem sh_130 : g_sh[130]? = some (.inl (.int, 8, [])) := rfl
theorem sh_131 : g_sh[131]? = some (.inl (.int, 8, [])) := rfl
theorem sh_132 : g_sh[132]? = some (.inr (1, [some 133])) := rfl
theorem sh_133 : g_sh[133]? = some (.inl (.int, 64, [])) := rfl
theorem sh_134 : g_sh[134]? = some (.inl (.object "PastureBanker$State", 2, [136, 151])) := rfl
theorem sh_135 : g_sh[135]? = some (.inl (.boolean, 2, [])) := rfl
theorem sh_136 : g_sh[136]? = some (.inr (8, [some 137, some 140, some 143, some 144, some 145, some 146, some 147, some 148, none, some 149, none, none, none, none])) := rfl
theorem sh_137 : g_sh[137]? = some (.inr (4, [some 138, some 139, none])) := rfl
theorem sh_138 : g_sh[138]? = some (.inl (.byte, 48, [])) := rfl
theorem sh_139 : g_sh[139]? = some (.inl (.int, 8, [])) := rfl
theorem sh_140 : g_sh[140]? = some (.inr (4, [some 141, some 142, none])) := rfl
theorem sh_141 : g_sh[141]? = some (.inl (.byte, 48, [])) := rfl
theorem sh_142 : g_sh[142]? = some (.inl (.int, 8, [])) := rfl
theorem sh_143 : g_sh[143]? = some (.inl (.int, 5, [])) := rfl
theorem sh_144 : g_sh[144]? = some (.inl (.int, 40, [])) := rfl
theorem sh_145 : g_sh[145]? = some (.inl (.int, 40, [])) := rfl
theorem sh_146 : g_sh[146]? = some (.inl (.int, 8, [])) := rfl
theorem sh_147 : g_sh[147]? = some (.inl (.int, 8, [])) := rfl
theorem sh_148 : g_sh[148]? = some (.inl (.int, 8, [])) := rfl
theorem sh_149 : g_sh[149]? = some (.inr (1, [some 150])) := rfl
theorem sh_150 : g_sh[150]? = some (.inl (.int, 64, [])) := rfl
theorem sh_151 : g_sh[151]? = some (.inr (8, [some 152, some 155, some 158, some 159, some 160, some 161, some 162, some 163, none, some 164, none, none, none, none])) := rfl
theorem sh_152 : g_sh[152]? = some (.inr (4, [some 153, some 154, none])) := rfl
theorem sh_153 : g_sh[153]? = some (.inl (.byte, 48, [])) := rfl
theorem sh_154 : g_sh[154]? = some (.inl (.int, 8, [])) := rfl
theorem sh_155 : g_sh[155]? = some (.inr (4, [some 156, some 157, none])) := rfl
theorem sh_156 : g_sh[156]? = some (.inl (.byte, 48, [])) := rfl
theorem sh_157 : g_sh[157]? = some (.inl (.int, 8, [])) := rfl
theorem sh_158 : g_sh[158]? = some (.inl (.int, 5, [])) := rfl
theorem sh_159 : g_sh[159]? = some (.inl (.int, 40, [])) := rfl
theorem sh_160 : g_sh[160]? = some (.inl (.int, 40, [])) := rfl
theorem sh_161 : g_sh[161]? = some (.inl (.int, 8, [])) := rfl
theorem sh_162 : g_sh[162]? = some (.inl (.int, 8, [])) := rfl
theorem sh_163 : g_sh[163]? = some (.inl (.int, 8, [])) := rfl
theorem sh_164 : g_sh[164]? = some (.inr (1, [some 165])) := rfl
theorem sh_165 : g_sh[165]? = some (.inl (.int, 64, [])) := rfl
theorem sh_166 : g_sh[166]? = some (.inr (10, [some 167, some 168, none, some 169, none, none, none, some 170, none, none, some 171, some 172, some 173, some 174, some 175, none, none, none, none, some 176])) := rfl
theorem sh_167 : g_sh[167]? = some (.inl (.int, 2992, [])) := rfl
theorem sh_168 : g_sh[168]? = some (.inl (.boolean, 2, [])) := rfl
theorem sh_169 : g_sh[169]? = some (.inl (.int, 600, [])) := rfl
theorem sh_170 : g_sh[170]? = some (.inl (.int, 240, [])) := rfl
theorem sh_171 : g_sh[171]? = some (.inl (.int, 5, [])) := rfl
theorem sh_172 : g_sh[172]? = some (.inl (.int, 8, [])) := rfl
theorem sh_173 : g_sh[173]? = some (.inl (.boolean, 8, [])) := rfl
theorem sh_174 : g_sh[174]? = some (.inl (.int, 8, [])) := rfl
theorem sh_175 : g_sh[175]? = some (.inl (.int, 8, [])) := rfl
theorem sh_176 : g_sh[176]? = some (.inl (.int, 120, [])) := rfl
theorem sh_177 : g_sh[177]? = some (.inl (.long, 1, [])) := rfl
theorem sh_178 : g_sh[178]? = some (.inl (.double, 1, [])) := rfl
def g_N (n : Nat) : Prop := g_sh[n]? = some (.inr (4, [some (n + 1), some (n + 2), none])) ∧ g_sh[n + 1]? = some (.inl (.byte, 48, [])) ∧ g_sh[n + 2]? = some (.inl (.int, 8, []))
def g_Db (n : Nat) : Prop := g_sh[n]? = some (.inr (1, [some (n + 1)])) ∧ g_sh[n + 1]? = some (.inl (.int, 64, []))
def g_S (o : Nat) : Prop := g_sh[o]? = some (.inr (8, [some (o + 1), some (o + 4), some (o + 7), some (o + 8), some (o + 9), some (o + 10), some (o + 11), some (o + 12), none, some (o + 13), none, none, none, none])) ∧ g_N (o + 1) ∧ g_N (o + 4) ∧ g_Db (o + 13) ∧ g_sh[o + 7]? = some (.inl (.int, 5, [])) ∧ g_sh[o + 8]? = some (.inl (.int, 40, [])) ∧ g_sh[o + 9]? = some (.inl (.int, 40, [])) ∧ g_sh[o + 10]? = some (.inl (.int, 8, [])) ∧ g_sh[o + 11]? = some (.inl (.int, 8, [])) ∧ g_sh[o + 12]? = some (.inl (.int, 8, []))
theorem g_N_13 : g_N 13 := ⟨sh_13, sh_14, sh_15⟩
theorem g_N_16 : g_N 16 := ⟨sh_16, sh_17, sh_18⟩
theorem g_Db_25 : g_Db 25 := ⟨sh_25, sh_26⟩
theorem g_S_12 : g_S 12 := ⟨sh_12, g_N_13, g_N_16, g_Db_25, sh_19, sh_20, sh_21, sh_22, sh_23, sh_24⟩
theorem g_N_28 : g_N 28 := ⟨sh_28, sh_29, sh_30⟩
theorem g_N_31 : g_N 31 := ⟨sh_31, sh_32, sh_33⟩
theorem g_Db_40 : g_Db 40 := ⟨sh_40, sh_41⟩
theorem g_S_27 : g_S 27 := ⟨sh_27, g_N_28, g_N_31, g_Db_40, sh_34, sh_35, sh_36, sh_37, sh_38, sh_39⟩
theorem g_N_45 : g_N 45 := ⟨sh_45, sh_46, sh_47⟩
theorem g_N_48 : g_N 48 := ⟨sh_48, sh_49, sh_50⟩
theorem g_Db_57 : g_Db 57 := ⟨sh_57, sh_58⟩
theorem g_S_44 : g_S 44 := ⟨sh_44, g_N_45, g_N_48, g_Db_57, sh_51, sh_52, sh_53, sh_54, sh_55, sh_56⟩
theorem g_N_60 : g_N 60 := ⟨sh_60, sh_61, sh_62⟩
theorem g_N_63 : g_N 63 := ⟨sh_63, sh_64, sh_65⟩
theorem g_Db_72 : g_Db 72 := ⟨sh_72, sh_73⟩
theorem g_S_59 : g_S 59 := ⟨sh_59, g_N_60, g_N_63, g_Db_72, sh_66, sh_67, sh_68, sh_69, sh_70, sh_71⟩
theorem g_N_75 : g_N 75 := ⟨sh_75, sh_76, sh_77⟩
theorem g_N_78 : g_N 78 := ⟨sh_78, sh_79, sh_80⟩
theorem g_Db_87 : g_Db 87 := ⟨sh_87, sh_88⟩
theorem g_S_74 : g_S 74 := ⟨sh_74, g_N_75, g_N_78, g_Db_87, sh_81, sh_82, sh_83, sh_84, sh_85, sh_86⟩
theorem g_N_90 : g_N 90 := ⟨sh_90, sh_91, sh_92⟩
theorem g_N_93 : g_N 93 := ⟨sh_93, sh_94, sh_95⟩
theorem g_Db_102 : g_Db 102 := ⟨sh_102, sh_103⟩
theorem g_S_89 : g_S 89 := ⟨sh_89, g_N_90, g_N_93, g_Db_102, sh_96, sh_97, sh_98, sh_99, sh_100, sh_101⟩
theorem g_N_105 : g_N 105 := ⟨sh_105, sh_106, sh_107⟩
theorem g_N_108 : g_N 108 := ⟨sh_108, sh_109, sh_110⟩
theorem g_Db_117 : g_Db 117 := ⟨sh_117, sh_118⟩
theorem g_S_104 : g_S 104 := ⟨sh_104, g_N_105, g_N_108, g_Db_117, sh_111, sh_112, sh_113, sh_114, sh_115, sh_116⟩
theorem g_N_120 : g_N 120 := ⟨sh_120, sh_121, sh_122⟩
theorem g_N_123 : g_N 123 := ⟨sh_123, sh_124, sh_125⟩
theorem g_Db_132 : g_Db 132 := ⟨sh_132, sh_133⟩
theorem g_S_119 : g_S 119 := ⟨sh_119, g_N_120, g_N_123, g_Db_132, sh_126, sh_127, sh_128, sh_129, sh_130, sh_131⟩
theorem g_N_137 : g_N 137 := ⟨sh_137, sh_138, sh_139⟩
theorem g_N_140 : g_N 140 := ⟨sh_140, sh_141, sh_142⟩
theorem g_Db_149 : g_Db 149 := ⟨sh_149, sh_150⟩
theorem g_S_136 : g_S 136 := ⟨sh_136, g_N_137, g_N_140, g_Db_149, sh_143, sh_144, sh_145, sh_146, sh_147, sh_148⟩
theorem g_N_152 : g_N 152 := ⟨sh_152, sh_153, sh_154⟩
theorem g_N_155 : g_N 155 := ⟨sh_155, sh_156, sh_157⟩
theorem g_Db_164 : g_Db 164 := ⟨sh_164, sh_165⟩
theorem g_S_151 : g_S 151 := ⟨sh_151, g_N_152, g_N_155, g_Db_164, sh_158, sh_159, sh_160, sh_161, sh_162, sh_163⟩
theorem F_RX10_10 : g_F RX10 10 9 0 := ⟨(RX10, TX10, 10), rfl, by decide, g_w_mem (List.mem_of_getElem? (i := 520) (by decide +kernel)) (by decide +kernel)⟩
theorem F_RX10_20 : g_F RX10 20 9 1 := ⟨(RX10, TX10, 10), rfl, by decide, g_w_mem (List.mem_of_getElem? (i := 521) (by decide +kernel)) (by decide +kernel)⟩
theorem F_RX10_24 : g_F RX10 24 9 2 := ⟨(RX10, TX10, 10), rfl, by decide, g_w_mem (List.mem_of_getElem? (i := 522) (by decide +kernel)) (by decide +kernel)⟩
theorem F_RX10_31 : g_F RX10 31 9 3 := ⟨(RX10, TX10, 10), rfl, by decide, g_w_mem (List.mem_of_getElem? (i := 523) (by decide +kernel)) (by decide +kernel)⟩
theorem F_RX10_38 : g_F RX10 38 9 4 := ⟨(RX10, TX10, 10), rfl, by decide, g_w_mem (List.mem_of_getElem? (i := 524) (by decide +kernel)) (by decide +kernel)⟩
theorem F_RX10_45 : g_F RX10 45 9 5 := ⟨(RX10, TX10, 10), rfl, by decide, g_w_mem (List.mem_of_getElem? (i := 525) (by decide +kernel)) (by decide +kernel)⟩
theorem F_RX10_49 : g_F RX10 49 9 6 := ⟨(RX10, TX10, 10), rfl, by decide, g_w_mem (List.mem_of_getElem? (i := 526) (by decide +kernel)) (by decide +kernel)⟩
theorem F_RX10_55 : g_F RX10 55 9 7 := ⟨(RX10, TX10, 10), rfl, by decide, g_w_mem (List.mem_of_getElem? (i := 527) (by decide +kernel)) (by decide +kernel)⟩
theorem F_RX10_59 : g_F RX10 59 9 8 := ⟨(RX10, TX10, 10), rfl, by decide, g_w_mem (List.mem_of_getElem? (i := 528) (by decide +kernel)) (by decide +kernel)⟩
theorem F_RX10_63 : g_F RX10 63 9 9 := ⟨(RX10, TX10, 10), rfl, by decide, g_w_mem (List.mem_of_getElem? (i := 529) (by decide +kernel)) (by decide +kernel)⟩
theorem F_RX10_79 : g_F RX10 79 3 1 := ⟨(RX4, TX4, 6), rfl, by decide, g_w_mem (List.mem_of_getElem? (i := 142) (by decide +kernel)) (by decide +kernel)⟩
theorem F_RX10_104 : g_F RX10 104 2 2 := ⟨(RX3, TX3, 3), rfl, by decide, g_w_mem (List.mem_of_getElem? (i := 355) (by decide +kernel)) (by decide +kernel)⟩
theorem F_RX10_107 : g_F RX10 107 8 1 := ⟨(RX9, TX9, 14), rfl, by decide, g_w_mem (List.mem_of_getElem? (i := 273) (by decide +kernel)) (by decide +kernel)⟩
theorem F_RX10_111 : g_F RX10 111 4 2 := ⟨(RX5, TX5, 3), rfl, by decide, g_w_mem (List.mem_of_getElem? (i := 246) (by decide +kernel)) (by decide +kernel)⟩
theorem F_RX10_114 : g_F RX10 114 6 1 := ⟨(RX7, TX7, 3), rfl, by decide, g_w_mem (List.mem_of_getElem? (i := 169) (by decide +kernel)) (by decide +kernel)⟩
theorem F_RX10_117 : g_F RX10 117 6 2 := ⟨(RX7, TX7, 3), rfl, by decide, g_w_mem (List.mem_of_getElem? (i := 171) (by decide +kernel)) (by decide +kernel)⟩
theorem F_RX10_120 : g_F RX10 120 8 0 := ⟨(RX9, TX9, 14), rfl, by decide, g_w_mem (List.mem_of_getElem? (i := 269) (by decide +kernel)) (by decide +kernel)⟩
theorem F_RX10_132 : g_F RX10 132 8 2 := ⟨(RX9, TX9, 14), rfl, by decide, g_w_mem (List.mem_of_getElem? (i := 278) (by decide +kernel)) (by decide +kernel)⟩
theorem F_RX10_144 : g_F RX10 144 8 3 := ⟨(RX9, TX9, 14), rfl, by decide, g_w_mem (List.mem_of_getElem? (i := 282) (by decide +kernel)) (by decide +kernel)⟩
theorem F_RX10_151 : g_F RX10 151 8 4 := ⟨(RX9, TX9, 14), rfl, by decide, g_w_mem (List.mem_of_getElem? (i := 286) (by decide +kernel)) (by decide +kernel)⟩
theorem F_RX10_164 : g_F RX10 164 3 0 := ⟨(RX4, TX4, 6), rfl, by decide, g_w_mem (List.mem_of_getElem? (i := 141) (by decide +kernel)) (by decide +kernel)⟩
theorem F_RX10_180 : g_F RX10 180 0 0 := ⟨(RX0, TX0, 2), rfl, by decide, g_w_mem (List.mem_of_getElem? (i := 220) (by decide +kernel)) (by decide +kernel)⟩
theorem F_RX10_207 : g_F RX10 207 8 8 := ⟨(RX9, TX9, 14), rfl, by decide, g_w_mem (List.mem_of_getElem? (i := 298) (by decide +kernel)) (by decide +kernel)⟩
theorem F_RX10_210 : g_F RX10 210 8 7 := ⟨(RX9, TX9, 14), rfl, by decide, g_w_mem (List.mem_of_getElem? (i := 295) (by decide +kernel)) (by decide +kernel)⟩
theorem F_RX10_217 : g_F RX10 217 8 5 := ⟨(RX9, TX9, 14), rfl, by decide, g_w_mem (List.mem_of_getElem? (i := 289) (by decide +kernel)) (by decide +kernel)⟩
theorem F_RX10_220 : g_F RX10 220 8 6 := ⟨(RX9, TX9, 14), rfl, by decide, g_w_mem (List.mem_of_getElem? (i := 292) (by decide +kernel)) (by decide +kernel)⟩
theorem F_RX10_242 : g_F RX10 242 8 9 := ⟨(RX9, TX9, 14), rfl, by decide, g_w_mem (List.mem_of_getElem? (i := 301) (by decide +kernel)) (by decide +kernel)⟩
theorem F_RX10_266 : g_F RX10 266 8 10 := ⟨(RX9, TX9, 14), rfl, by decide, g_w_mem (List.mem_of_getElem? (i := 304) (by decide +kernel)) (by decide +kernel)⟩
theorem F_RX10_269 : g_F RX10 269 8 11 := ⟨(RX9, TX9, 14), rfl, by decide, g_w_mem (List.mem_of_getElem? (i := 307) (by decide +kernel)) (by decide +kernel)⟩
theorem F_RX10_272 : g_F RX10 272 8 12 := ⟨(RX9, TX9, 14), rfl, by decide, g_w_mem (List.mem_of_getElem? (i := 310) (by decide +kernel)) (by decide +kernel)⟩
theorem F_RX10_275 : g_F RX10 275 8 13 := ⟨(RX9, TX9, 14), rfl, by decide, g_w_mem (List.mem_of_getElem? (i := 313) (by decide +kernel)) (by decide +kernel)⟩
theorem F_RX10_344 : g_F RX10 344 7 2 := ⟨(RX8, TX8, 3), rfl, by decide, g_w_mem (List.mem_of_getElem? (i := 204) (by decide +kernel)) (by decide +kernel)⟩
theorem F_RX10_357 : g_F RX10 357 5 1 := ⟨(RX6, TX6, 2), rfl, by decide, g_w_mem (List.mem_of_getElem? (i := 188) (by decide +kernel)) (by decide +kernel)⟩
theorem F_RX10_369 : g_F RX10 369 5 0 := ⟨(RX6, TX6, 2), rfl, by decide, g_w_mem (List.mem_of_getElem? (i := 186) (by decide +kernel)) (by decide +kernel)⟩
theorem F_RX10_386 : g_F RX10 386 4 1 := ⟨(RX5, TX5, 3), rfl, by decide, g_w_mem (List.mem_of_getElem? (i := 242) (by decide +kernel)) (by decide +kernel)⟩
theorem F_RX0_9 : g_F RX0 9 0 0 := ⟨(RX0, TX0, 2), rfl, by decide, g_w_mem (List.mem_of_getElem? (i := 219) (by decide +kernel)) (by decide +kernel)⟩
theorem F_RX0_15 : g_F RX0 15 0 1 := ⟨(RX0, TX0, 2), rfl, by decide, g_w_mem (List.mem_of_getElem? (i := 221) (by decide +kernel)) (by decide +kernel)⟩
theorem F_RX0_18 : g_F RX0 18 8 0 := ⟨(RX9, TX9, 14), rfl, by decide, g_w_mem (List.mem_of_getElem? (i := 266) (by decide +kernel)) (by decide +kernel)⟩
theorem F_RX0_24 : g_F RX0 24 4 2 := ⟨(RX5, TX5, 3), rfl, by decide, g_w_mem (List.mem_of_getElem? (i := 243) (by decide +kernel)) (by decide +kernel)⟩
theorem F_RX0_30 : g_F RX0 30 8 2 := ⟨(RX9, TX9, 14), rfl, by decide, g_w_mem (List.mem_of_getElem? (i := 276) (by decide +kernel)) (by decide +kernel)⟩
theorem F_RX0_33 : g_F RX0 33 8 1 := ⟨(RX9, TX9, 14), rfl, by decide, g_w_mem (List.mem_of_getElem? (i := 272) (by decide +kernel)) (by decide +kernel)⟩
theorem F_RX0_36 : g_F RX0 36 8 4 := ⟨(RX9, TX9, 14), rfl, by decide, g_w_mem (List.mem_of_getElem? (i := 284) (by decide +kernel)) (by decide +kernel)⟩
theorem F_RX0_39 : g_F RX0 39 8 3 := ⟨(RX9, TX9, 14), rfl, by decide, g_w_mem (List.mem_of_getElem? (i := 280) (by decide +kernel)) (by decide +kernel)⟩
theorem F_RX0_103 : g_F RX0 103 8 10 := ⟨(RX9, TX9, 14), rfl, by decide, g_w_mem (List.mem_of_getElem? (i := 303) (by decide +kernel)) (by decide +kernel)⟩
theorem F_RX0_110 : g_F RX0 110 8 12 := ⟨(RX9, TX9, 14), rfl, by decide, g_w_mem (List.mem_of_getElem? (i := 309) (by decide +kernel)) (by decide +kernel)⟩
theorem F_RX0_121 : g_F RX0 121 8 13 := ⟨(RX9, TX9, 14), rfl, by decide, g_w_mem (List.mem_of_getElem? (i := 312) (by decide +kernel)) (by decide +kernel)⟩
theorem F_RX0_124 : g_F RX0 124 8 11 := ⟨(RX9, TX9, 14), rfl, by decide, g_w_mem (List.mem_of_getElem? (i := 306) (by decide +kernel)) (by decide +kernel)⟩
theorem F_RX0_127 : g_F RX0 127 8 8 := ⟨(RX9, TX9, 14), rfl, by decide, g_w_mem (List.mem_of_getElem? (i := 297) (by decide +kernel)) (by decide +kernel)⟩
theorem F_RX0_130 : g_F RX0 130 8 7 := ⟨(RX9, TX9, 14), rfl, by decide, g_w_mem (List.mem_of_getElem? (i := 294) (by decide +kernel)) (by decide +kernel)⟩
theorem F_RX0_133 : g_F RX0 133 8 5 := ⟨(RX9, TX9, 14), rfl, by decide, g_w_mem (List.mem_of_getElem? (i := 288) (by decide +kernel)) (by decide +kernel)⟩
theorem F_RX0_136 : g_F RX0 136 8 6 := ⟨(RX9, TX9, 14), rfl, by decide, g_w_mem (List.mem_of_getElem? (i := 291) (by decide +kernel)) (by decide +kernel)⟩
theorem F_RX1_9 : g_F RX1 9 1 0 := ⟨(RX1, TX1, 1), rfl, by decide, g_w_mem (List.mem_of_getElem? (i := 261) (by decide +kernel)) (by decide +kernel)⟩
theorem F_RX2_9 : g_F RX2 9 8 1 := ⟨(RX9, TX9, 14), rfl, by decide, g_w_mem (List.mem_of_getElem? (i := 271) (by decide +kernel)) (by decide +kernel)⟩
theorem F_RX2_21 : g_F RX2 21 8 0 := ⟨(RX9, TX9, 14), rfl, by decide, g_w_mem (List.mem_of_getElem? (i := 267) (by decide +kernel)) (by decide +kernel)⟩
theorem F_RX2_24 : g_F RX2 24 4 1 := ⟨(RX5, TX5, 3), rfl, by decide, g_w_mem (List.mem_of_getElem? (i := 241) (by decide +kernel)) (by decide +kernel)⟩
theorem F_RX2_41 : g_F RX2 41 8 4 := ⟨(RX9, TX9, 14), rfl, by decide, g_w_mem (List.mem_of_getElem? (i := 285) (by decide +kernel)) (by decide +kernel)⟩
theorem F_RX2_57 : g_F RX2 57 8 9 := ⟨(RX9, TX9, 14), rfl, by decide, g_w_mem (List.mem_of_getElem? (i := 300) (by decide +kernel)) (by decide +kernel)⟩
theorem F_RX3_11 : g_F RX3 11 2 0 := ⟨(RX3, TX3, 3), rfl, by decide, g_w_mem (List.mem_of_getElem? (i := 352) (by decide +kernel)) (by decide +kernel)⟩
theorem F_RX3_18 : g_F RX3 18 2 1 := ⟨(RX3, TX3, 3), rfl, by decide, g_w_mem (List.mem_of_getElem? (i := 353) (by decide +kernel)) (by decide +kernel)⟩
theorem F_RX3_26 : g_F RX3 26 2 2 := ⟨(RX3, TX3, 3), rfl, by decide, g_w_mem (List.mem_of_getElem? (i := 354) (by decide +kernel)) (by decide +kernel)⟩
theorem F_RX4_9 : g_F RX4 9 3 0 := ⟨(RX4, TX4, 6), rfl, by decide, g_w_mem (List.mem_of_getElem? (i := 139) (by decide +kernel)) (by decide +kernel)⟩
theorem F_RX4_29 : g_F RX4 29 3 1 := ⟨(RX4, TX4, 6), rfl, by decide, g_w_mem (List.mem_of_getElem? (i := 143) (by decide +kernel)) (by decide +kernel)⟩
theorem F_RX4_32 : g_F RX4 32 3 4 := ⟨(RX4, TX4, 6), rfl, by decide, g_w_mem (List.mem_of_getElem? (i := 148) (by decide +kernel)) (by decide +kernel)⟩
theorem F_RX4_38 : g_F RX4 38 3 3 := ⟨(RX4, TX4, 6), rfl, by decide, g_w_mem (List.mem_of_getElem? (i := 147) (by decide +kernel)) (by decide +kernel)⟩
theorem F_RX4_48 : g_F RX4 48 3 2 := ⟨(RX4, TX4, 6), rfl, by decide, g_w_mem (List.mem_of_getElem? (i := 144) (by decide +kernel)) (by decide +kernel)⟩
theorem F_RX4_51 : g_F RX4 51 3 5 := ⟨(RX4, TX4, 6), rfl, by decide, g_w_mem (List.mem_of_getElem? (i := 151) (by decide +kernel)) (by decide +kernel)⟩
theorem F_RX5_9 : g_F RX5 9 4 0 := ⟨(RX5, TX5, 3), rfl, by decide, g_w_mem (List.mem_of_getElem? (i := 239) (by decide +kernel)) (by decide +kernel)⟩
theorem F_RX5_15 : g_F RX5 15 4 1 := ⟨(RX5, TX5, 3), rfl, by decide, g_w_mem (List.mem_of_getElem? (i := 240) (by decide +kernel)) (by decide +kernel)⟩
theorem F_RX5_25 : g_F RX5 25 4 2 := ⟨(RX5, TX5, 3), rfl, by decide, g_w_mem (List.mem_of_getElem? (i := 244) (by decide +kernel)) (by decide +kernel)⟩
theorem F_RX6_9 : g_F RX6 9 5 0 := ⟨(RX6, TX6, 2), rfl, by decide, g_w_mem (List.mem_of_getElem? (i := 185) (by decide +kernel)) (by decide +kernel)⟩
theorem F_RX6_15 : g_F RX6 15 5 1 := ⟨(RX6, TX6, 2), rfl, by decide, g_w_mem (List.mem_of_getElem? (i := 187) (by decide +kernel)) (by decide +kernel)⟩
theorem F_RX7_12 : g_F RX7 12 6 0 := ⟨(RX7, TX7, 3), rfl, by decide, g_w_mem (List.mem_of_getElem? (i := 166) (by decide +kernel)) (by decide +kernel)⟩
theorem F_RX7_18 : g_F RX7 18 6 2 := ⟨(RX7, TX7, 3), rfl, by decide, g_w_mem (List.mem_of_getElem? (i := 170) (by decide +kernel)) (by decide +kernel)⟩
theorem F_RX7_22 : g_F RX7 22 6 1 := ⟨(RX7, TX7, 3), rfl, by decide, g_w_mem (List.mem_of_getElem? (i := 168) (by decide +kernel)) (by decide +kernel)⟩
theorem F_RX7_28 : g_F RX7 28 3 3 := ⟨(RX4, TX4, 6), rfl, by decide, g_w_mem (List.mem_of_getElem? (i := 146) (by decide +kernel)) (by decide +kernel)⟩
theorem F_RX7_66 : g_F RX7 66 8 0 := ⟨(RX9, TX9, 14), rfl, by decide, g_w_mem (List.mem_of_getElem? (i := 268) (by decide +kernel)) (by decide +kernel)⟩
theorem F_RX7_69 : g_F RX7 69 4 2 := ⟨(RX5, TX5, 3), rfl, by decide, g_w_mem (List.mem_of_getElem? (i := 247) (by decide +kernel)) (by decide +kernel)⟩
theorem F_RX7_81 : g_F RX7 81 8 2 := ⟨(RX9, TX9, 14), rfl, by decide, g_w_mem (List.mem_of_getElem? (i := 277) (by decide +kernel)) (by decide +kernel)⟩
theorem F_RX7_85 : g_F RX7 85 3 5 := ⟨(RX4, TX4, 6), rfl, by decide, g_w_mem (List.mem_of_getElem? (i := 150) (by decide +kernel)) (by decide +kernel)⟩
theorem F_RX7_94 : g_F RX7 94 3 2 := ⟨(RX4, TX4, 6), rfl, by decide, g_w_mem (List.mem_of_getElem? (i := 145) (by decide +kernel)) (by decide +kernel)⟩
theorem F_RX7_98 : g_F RX7 98 8 1 := ⟨(RX9, TX9, 14), rfl, by decide, g_w_mem (List.mem_of_getElem? (i := 274) (by decide +kernel)) (by decide +kernel)⟩
theorem F_RX7_100 : g_F RX7 100 8 3 := ⟨(RX9, TX9, 14), rfl, by decide, g_w_mem (List.mem_of_getElem? (i := 281) (by decide +kernel)) (by decide +kernel)⟩
theorem F_RX7_107 : g_F RX7 107 7 2 := ⟨(RX8, TX8, 3), rfl, by decide, g_w_mem (List.mem_of_getElem? (i := 203) (by decide +kernel)) (by decide +kernel)⟩
theorem F_RX7_136 : g_F RX7 136 3 4 := ⟨(RX4, TX4, 6), rfl, by decide, g_w_mem (List.mem_of_getElem? (i := 149) (by decide +kernel)) (by decide +kernel)⟩
theorem F_RX7_139 : g_F RX7 139 3 0 := ⟨(RX4, TX4, 6), rfl, by decide, g_w_mem (List.mem_of_getElem? (i := 140) (by decide +kernel)) (by decide +kernel)⟩
theorem F_RX8_9 : g_F RX8 9 7 0 := ⟨(RX8, TX8, 3), rfl, by decide, g_w_mem (List.mem_of_getElem? (i := 200) (by decide +kernel)) (by decide +kernel)⟩
theorem F_RX8_15 : g_F RX8 15 7 1 := ⟨(RX8, TX8, 3), rfl, by decide, g_w_mem (List.mem_of_getElem? (i := 201) (by decide +kernel)) (by decide +kernel)⟩
theorem F_RX8_32 : g_F RX8 32 7 2 := ⟨(RX8, TX8, 3), rfl, by decide, g_w_mem (List.mem_of_getElem? (i := 202) (by decide +kernel)) (by decide +kernel)⟩
theorem F_RX9_12 : g_F RX9 12 8 0 := ⟨(RX9, TX9, 14), rfl, by decide, g_w_mem (List.mem_of_getElem? (i := 265) (by decide +kernel)) (by decide +kernel)⟩
theorem F_RX9_18 : g_F RX9 18 8 1 := ⟨(RX9, TX9, 14), rfl, by decide, g_w_mem (List.mem_of_getElem? (i := 270) (by decide +kernel)) (by decide +kernel)⟩
theorem F_RX9_21 : g_F RX9 21 8 2 := ⟨(RX9, TX9, 14), rfl, by decide, g_w_mem (List.mem_of_getElem? (i := 275) (by decide +kernel)) (by decide +kernel)⟩
theorem F_RX9_25 : g_F RX9 25 8 3 := ⟨(RX9, TX9, 14), rfl, by decide, g_w_mem (List.mem_of_getElem? (i := 279) (by decide +kernel)) (by decide +kernel)⟩
theorem F_RX9_28 : g_F RX9 28 8 4 := ⟨(RX9, TX9, 14), rfl, by decide, g_w_mem (List.mem_of_getElem? (i := 283) (by decide +kernel)) (by decide +kernel)⟩
theorem F_RX9_31 : g_F RX9 31 8 5 := ⟨(RX9, TX9, 14), rfl, by decide, g_w_mem (List.mem_of_getElem? (i := 287) (by decide +kernel)) (by decide +kernel)⟩
theorem F_RX9_34 : g_F RX9 34 8 6 := ⟨(RX9, TX9, 14), rfl, by decide, g_w_mem (List.mem_of_getElem? (i := 290) (by decide +kernel)) (by decide +kernel)⟩
theorem F_RX9_37 : g_F RX9 37 8 7 := ⟨(RX9, TX9, 14), rfl, by decide, g_w_mem (List.mem_of_getElem? (i := 293) (by decide +kernel)) (by decide +kernel)⟩
theorem F_RX9_43 : g_F RX9 43 8 9 := ⟨(RX9, TX9, 14), rfl, by decide, g_w_mem (List.mem_of_getElem? (i := 299) (by decide +kernel)) (by decide +kernel)⟩
theorem F_RX9_57 : g_F RX9 57 8 8 := ⟨(RX9, TX9, 14), rfl, by decide, g_w_mem (List.mem_of_getElem? (i := 296) (by decide +kernel)) (by decide +kernel)⟩
theorem F_RX9_64 : g_F RX9 64 8 10 := ⟨(RX9, TX9, 14), rfl, by decide, g_w_mem (List.mem_of_getElem? (i := 302) (by decide +kernel)) (by decide +kernel)⟩
theorem F_RX9_67 : g_F RX9 67 8 11 := ⟨(RX9, TX9, 14), rfl, by decide, g_w_mem (List.mem_of_getElem? (i := 305) (by decide +kernel)) (by decide +kernel)⟩
theorem F_RX9_70 : g_F RX9 70 8 12 := ⟨(RX9, TX9, 14), rfl, by decide, g_w_mem (List.mem_of_getElem? (i := 308) (by decide +kernel)) (by decide +kernel)⟩
theorem F_RX9_73 : g_F RX9 73 8 13 := ⟨(RX9, TX9, 14), rfl, by decide, g_w_mem (List.mem_of_getElem? (i := 311) (by decide +kernel)) (by decide +kernel)⟩
theorem F_RX9_76 : g_F RX9 76 4 2 := ⟨(RX5, TX5, 3), rfl, by decide, g_w_mem (List.mem_of_getElem? (i := 245) (by decide +kernel)) (by decide +kernel)⟩
theorem F_RX11_1 : g_F RX11 1 10 9 := ⟨(RX11, TX11, 20), rfl, by decide, g_w_mem (List.mem_of_getElem? (i := 1486) (by decide +kernel)) (by decide +kernel)⟩
theorem F_RX11_13 : g_F RX11 13 10 0 := ⟨(RX11, TX11, 20), rfl, by decide, g_w_mem (List.mem_of_getElem? (i := 1477) (by decide +kernel)) (by decide +kernel)⟩
theorem F_RX11_17 : g_F RX11 17 10 1 := ⟨(RX11, TX11, 20), rfl, by decide, g_w_mem (List.mem_of_getElem? (i := 1478) (by decide +kernel)) (by decide +kernel)⟩
theorem F_RX11_21 : g_F RX11 21 10 2 := ⟨(RX11, TX11, 20), rfl, by decide, g_w_mem (List.mem_of_getElem? (i := 1479) (by decide +kernel)) (by decide +kernel)⟩
theorem F_RX11_24 : g_F RX11 24 10 3 := ⟨(RX11, TX11, 20), rfl, by decide, g_w_mem (List.mem_of_getElem? (i := 1480) (by decide +kernel)) (by decide +kernel)⟩
theorem F_RX11_27 : g_F RX11 27 10 4 := ⟨(RX11, TX11, 20), rfl, by decide, g_w_mem (List.mem_of_getElem? (i := 1481) (by decide +kernel)) (by decide +kernel)⟩
theorem F_RX11_30 : g_F RX11 30 10 5 := ⟨(RX11, TX11, 20), rfl, by decide, g_w_mem (List.mem_of_getElem? (i := 1482) (by decide +kernel)) (by decide +kernel)⟩
theorem F_RX11_33 : g_F RX11 33 10 6 := ⟨(RX11, TX11, 20), rfl, by decide, g_w_mem (List.mem_of_getElem? (i := 1483) (by decide +kernel)) (by decide +kernel)⟩
theorem F_RX11_36 : g_F RX11 36 10 7 := ⟨(RX11, TX11, 20), rfl, by decide, g_w_mem (List.mem_of_getElem? (i := 1484) (by decide +kernel)) (by decide +kernel)⟩
theorem F_RX11_39 : g_F RX11 39 10 8 := ⟨(RX11, TX11, 20), rfl, by decide, g_w_mem (List.mem_of_getElem? (i := 1485) (by decide +kernel)) (by decide +kernel)⟩
theorem F_RX11_42 : g_F RX11 42 10 10 := ⟨(RX11, TX11, 20), rfl, by decide, g_w_mem (List.mem_of_getElem? (i := 1487) (by decide +kernel)) (by decide +kernel)⟩
theorem F_RX11_45 : g_F RX11 45 10 11 := ⟨(RX11, TX11, 20), rfl, by decide, g_w_mem (List.mem_of_getElem? (i := 1488) (by decide +kernel)) (by decide +kernel)⟩
theorem F_RX11_48 : g_F RX11 48 10 12 := ⟨(RX11, TX11, 20), rfl, by decide, g_w_mem (List.mem_of_getElem? (i := 1489) (by decide +kernel)) (by decide +kernel)⟩
theorem F_RX11_51 : g_F RX11 51 10 13 := ⟨(RX11, TX11, 20), rfl, by decide, g_w_mem (List.mem_of_getElem? (i := 1490) (by decide +kernel)) (by decide +kernel)⟩
theorem F_RX11_54 : g_F RX11 54 10 14 := ⟨(RX11, TX11, 20), rfl, by decide, g_w_mem (List.mem_of_getElem? (i := 1491) (by decide +kernel)) (by decide +kernel)⟩
theorem F_RX11_57 : g_F RX11 57 10 15 := ⟨(RX11, TX11, 20), rfl, by decide, g_w_mem (List.mem_of_getElem? (i := 1492) (by decide +kernel)) (by decide +kernel)⟩
theorem F_RX11_60 : g_F RX11 60 10 16 := ⟨(RX11, TX11, 20), rfl, by decide, g_w_mem (List.mem_of_getElem? (i := 1493) (by decide +kernel)) (by decide +kernel)⟩
theorem F_RX11_63 : g_F RX11 63 10 17 := ⟨(RX11, TX11, 20), rfl, by decide, g_w_mem (List.mem_of_getElem? (i := 1494) (by decide +kernel)) (by decide +kernel)⟩
theorem F_RX11_66 : g_F RX11 66 10 18 := ⟨(RX11, TX11, 20), rfl, by decide, g_w_mem (List.mem_of_getElem? (i := 1495) (by decide +kernel)) (by decide +kernel)⟩
theorem F_RX11_69 : g_F RX11 69 10 19 := ⟨(RX11, TX11, 20), rfl, by decide, g_w_mem (List.mem_of_getElem? (i := 1496) (by decide +kernel)) (by decide +kernel)⟩
theorem FW_RX10_79 : g_FW RX10 79 3 1 := ⟨(RX4, TX4, 6), rfl, by decide, g_w_mem (List.mem_of_getElem? (i := 142) (by decide +kernel)) (by decide +kernel), rfl, by decide +kernel⟩
theorem FW_RX10_104 : g_FW RX10 104 2 2 := ⟨(RX3, TX3, 3), rfl, by decide, g_w_mem (List.mem_of_getElem? (i := 355) (by decide +kernel)) (by decide +kernel), rfl, by decide +kernel⟩
theorem FW_RX10_357 : g_FW RX10 357 5 1 := ⟨(RX6, TX6, 2), rfl, by decide, g_w_mem (List.mem_of_getElem? (i := 188) (by decide +kernel)) (by decide +kernel), rfl, by decide +kernel⟩
theorem FW_RX0_103 : g_FW RX0 103 8 10 := ⟨(RX9, TX9, 14), rfl, by decide, g_w_mem (List.mem_of_getElem? (i := 303) (by decide +kernel)) (by decide +kernel), rfl, by decide +kernel⟩
theorem FW_RX0_110 : g_FW RX0 110 8 12 := ⟨(RX9, TX9, 14), rfl, by decide, g_w_mem (List.mem_of_getElem? (i := 309) (by decide +kernel)) (by decide +kernel), rfl, by decide +kernel⟩
theorem FW_RX0_121 : g_FW RX0 121 8 13 := ⟨(RX9, TX9, 14), rfl, by decide, g_w_mem (List.mem_of_getElem? (i := 312) (by decide +kernel)) (by decide +kernel), rfl, by decide +kernel⟩
theorem FW_RX0_124 : g_FW RX0 124 8 11 := ⟨(RX9, TX9, 14), rfl, by decide, g_w_mem (List.mem_of_getElem? (i := 306) (by decide +kernel)) (by decide +kernel), rfl, by decide +kernel⟩
theorem FW_RX3_18 : g_FW RX3 18 2 1 := ⟨(RX3, TX3, 3), rfl, by decide, g_w_mem (List.mem_of_getElem? (i := 353) (by decide +kernel)) (by decide +kernel), rfl, by decide +kernel⟩
theorem FW_RX3_26 : g_FW RX3 26 2 2 := ⟨(RX3, TX3, 3), rfl, by decide, g_w_mem (List.mem_of_getElem? (i := 354) (by decide +kernel)) (by decide +kernel), rfl, by decide +kernel⟩
theorem FW_RX4_29 : g_FW RX4 29 3 1 := ⟨(RX4, TX4, 6), rfl, by decide, g_w_mem (List.mem_of_getElem? (i := 143) (by decide +kernel)) (by decide +kernel), rfl, by decide +kernel⟩
theorem FW_RX4_32 : g_FW RX4 32 3 4 := ⟨(RX4, TX4, 6), rfl, by decide, g_w_mem (List.mem_of_getElem? (i := 148) (by decide +kernel)) (by decide +kernel), rfl, by decide +kernel⟩
theorem FW_RX4_38 : g_FW RX4 38 3 3 := ⟨(RX4, TX4, 6), rfl, by decide, g_w_mem (List.mem_of_getElem? (i := 147) (by decide +kernel)) (by decide +kernel), rfl, by decide +kernel⟩
theorem FW_RX4_48 : g_FW RX4 48 3 2 := ⟨(RX4, TX4, 6), rfl, by decide, g_w_mem (List.mem_of_getElem? (i := 144) (by decide +kernel)) (by decide +kernel), rfl, by decide +kernel⟩
theorem FW_RX4_51 : g_FW RX4 51 3 5 := ⟨(RX4, TX4, 6), rfl, by decide, g_w_mem (List.mem_of_getElem? (i := 151) (by decide +kernel)) (by decide +kernel), rfl, by decide +kernel⟩
theorem FW_RX5_25 : g_FW RX5 25 4 2 := ⟨(RX5, TX5, 3), rfl, by decide, g_w_mem (List.mem_of_getElem? (i := 244) (by decide +kernel)) (by decide +kernel), rfl, by decide +kernel⟩
theorem FW_RX6_15 : g_FW RX6 15 5 1 := ⟨(RX6, TX6, 2), rfl, by decide, g_w_mem (List.mem_of_getElem? (i := 187) (by decide +kernel)) (by decide +kernel), rfl, by decide +kernel⟩
theorem FW_RX7_18 : g_FW RX7 18 6 2 := ⟨(RX7, TX7, 3), rfl, by decide, g_w_mem (List.mem_of_getElem? (i := 170) (by decide +kernel)) (by decide +kernel), rfl, by decide +kernel⟩
theorem FW_RX7_22 : g_FW RX7 22 6 1 := ⟨(RX7, TX7, 3), rfl, by decide, g_w_mem (List.mem_of_getElem? (i := 168) (by decide +kernel)) (by decide +kernel), rfl, by decide +kernel⟩
theorem FW_RX7_107 : g_FW RX7 107 7 2 := ⟨(RX8, TX8, 3), rfl, by decide, g_w_mem (List.mem_of_getElem? (i := 203) (by decide +kernel)) (by decide +kernel), rfl, by decide +kernel⟩
theorem FW_RX8_32 : g_FW RX8 32 7 2 := ⟨(RX8, TX8, 3), rfl, by decide, g_w_mem (List.mem_of_getElem? (i := 202) (by decide +kernel)) (by decide +kernel), rfl, by decide +kernel⟩
theorem FW_RX9_57 : g_FW RX9 57 8 8 := ⟨(RX9, TX9, 14), rfl, by decide, g_w_mem (List.mem_of_getElem? (i := 296) (by decide +kernel)) (by decide +kernel), rfl, by decide +kernel⟩
theorem FW_RX9_64 : g_FW RX9 64 8 10 := ⟨(RX9, TX9, 14), rfl, by decide, g_w_mem (List.mem_of_getElem? (i := 302) (by decide +kernel)) (by decide +kernel), rfl, by decide +kernel⟩
theorem FW_RX9_67 : g_FW RX9 67 8 11 := ⟨(RX9, TX9, 14), rfl, by decide, g_w_mem (List.mem_of_getElem? (i := 305) (by decide +kernel)) (by decide +kernel), rfl, by decide +kernel⟩
theorem FW_RX9_70 : g_FW RX9 70 8 12 := ⟨(RX9, TX9, 14), rfl, by decide, g_w_mem (List.mem_of_getElem? (i := 308) (by decide +kernel)) (by decide +kernel), rfl, by decide +kernel⟩
theorem FW_RX9_73 : g_FW RX9 73 8 13 := ⟨(RX9, TX9, 14), rfl, by decide, g_w_mem (List.mem_of_getElem? (i := 311) (by decide +kernel)) (by decide +kernel), rfl, by decide +kernel⟩
theorem FW_RX9_76 : g_FW RX9 76 4 2 := ⟨(RX5, TX5, 3), rfl, by decide, g_w_mem (List.mem_of_getElem? (i := 245) (by decide +kernel)) (by decide +kernel), rfl, by decide +kernel⟩
theorem FW_RX11_1 : g_FW RX11 1 10 9 := ⟨(RX11, TX11, 20), rfl, by decide, g_w_mem (List.mem_of_getElem? (i := 1486) (by decide +kernel)) (by decide +kernel), rfl, by decide +kernel⟩
theorem FW_RX11_21 : g_FW RX11 21 10 2 := ⟨(RX11, TX11, 20), rfl, by decide, g_w_mem (List.mem_of_getElem? (i := 1479) (by decide +kernel)) (by decide +kernel), rfl, by decide +kernel⟩
theorem FW_RX11_27 : g_FW RX11 27 10 4 := ⟨(RX11, TX11, 20), rfl, by decide, g_w_mem (List.mem_of_getElem? (i := 1481) (by decide +kernel)) (by decide +kernel), rfl, by decide +kernel⟩
theorem FW_RX11_30 : g_FW RX11 30 10 5 := ⟨(RX11, TX11, 20), rfl, by decide, g_w_mem (List.mem_of_getElem? (i := 1482) (by decide +kernel)) (by decide +kernel), rfl, by decide +kernel⟩
theorem FW_RX11_33 : g_FW RX11 33 10 6 := ⟨(RX11, TX11, 20), rfl, by decide, g_w_mem (List.mem_of_getElem? (i := 1483) (by decide +kernel)) (by decide +kernel), rfl, by decide +kernel⟩
theorem FW_RX11_39 : g_FW RX11 39 10 8 := ⟨(RX11, TX11, 20), rfl, by decide, g_w_mem (List.mem_of_getElem? (i := 1485) (by decide +kernel)) (by decide +kernel), rfl, by decide +kernel⟩
theorem FW_RX11_57 : g_FW RX11 57 10 15 := ⟨(RX11, TX11, 20), rfl, by decide, g_w_mem (List.mem_of_getElem? (i := 1492) (by decide +kernel)) (by decide +kernel), rfl, by decide +kernel⟩
theorem FW_RX11_60 : g_FW RX11 60 10 16 := ⟨(RX11, TX11, 20), rfl, by decide, g_w_mem (List.mem_of_getElem? (i := 1493) (by decide +kernel)) (by decide +kernel), rfl, by decide +kernel⟩
theorem FW_RX11_63 : g_FW RX11 63 10 17 := ⟨(RX11, TX11, 20), rfl, by decide, g_w_mem (List.mem_of_getElem? (i := 1494) (by decide +kernel)) (by decide +kernel), rfl, by decide +kernel⟩
theorem FW_RX11_66 : g_FW RX11 66 10 18 := ⟨(RX11, TX11, 20), rfl, by decide, g_w_mem (List.mem_of_getElem? (i := 1495) (by decide +kernel)) (by decide +kernel), rfl, by decide +kernel⟩
theorem CI_RJ6_265 : Cond.constant RJ6 265 1431655765 ∈ g_w := g_w_mem (List.mem_of_getElem? (i := 662) (by decide +kernel)) (by decide +kernel)
theorem CI_RJ6_266 : Cond.constant RJ6 266 858993459 ∈ g_w := g_w_mem (List.mem_of_getElem? (i := 663) (by decide +kernel)) (by decide +kernel)
theorem CI_RJ6_267 : Cond.constant RJ6 267 252645135 ∈ g_w := g_w_mem (List.mem_of_getElem? (i := 664) (by decide +kernel)) (by decide +kernel)
theorem MY_J6_bitCount_0f7a4 : g_MY yJ6_bitCount_0f7a4 cJ6_bitCount_0f7a4 1 (some .int) 1 := ⟨g_w_mem (List.mem_of_getElem? (i := 661) (by decide +kernel)) (by decide +kernel), g_w_mem (List.mem_of_getElem? (i := 118) (by decide +kernel)) (by decide +kernel), by decide +kernel, by decide +kernel, by decide +kernel⟩
theorem MS_J6_bitCount_0f7a4 : Cond.static yJ6_bitCount_0f7a4 ∈ g_w := g_w_mem (List.mem_of_getElem? (i := 660) (by decide +kernel)) (by decide +kernel)
theorem MY_X0_addAllocations : g_MY yX0_addAllocations cX0_addAllocations 5 none 2 := ⟨g_w_mem (List.mem_of_getElem? (i := 590) (by decide +kernel)) (by decide +kernel), g_w_mem (List.mem_of_getElem? (i := 98) (by decide +kernel)) (by decide +kernel), by decide +kernel, by decide +kernel, by decide +kernel⟩
theorem MI_X0_addAllocations : Cond.instanceMethod yX0_addAllocations ∈ g_w ∧ Cond.selects yX0_addAllocations.cls yX0_addAllocations yX0_addAllocations ∈ g_w := ⟨g_w_mem (List.mem_of_getElem? (i := 589) (by decide +kernel)) (by decide +kernel), g_w_mem (List.mem_of_getElem? (i := 15) (by decide +kernel)) (by decide +kernel)⟩
theorem MY_X0_allCanFinish : g_MY yX0_allCanFinish cX0_allCanFinish 5 (some .boolean) 1 := ⟨g_w_mem (List.mem_of_getElem? (i := 575) (by decide +kernel)) (by decide +kernel), g_w_mem (List.mem_of_getElem? (i := 98) (by decide +kernel)) (by decide +kernel), by decide +kernel, by decide +kernel, by decide +kernel⟩
theorem MI_X0_allCanFinish : Cond.instanceMethod yX0_allCanFinish ∈ g_w ∧ Cond.selects yX0_allCanFinish.cls yX0_allCanFinish yX0_allCanFinish ∈ g_w := ⟨g_w_mem (List.mem_of_getElem? (i := 573) (by decide +kernel)) (by decide +kernel), g_w_mem (List.mem_of_getElem? (i := 574) (by decide +kernel)) (by decide +kernel)⟩
theorem MY_X0_bestFinisher : g_MY yX0_bestFinisher cX0_bestFinisher 7 (some .int) 2 := ⟨g_w_mem (List.mem_of_getElem? (i := 602) (by decide +kernel)) (by decide +kernel), g_w_mem (List.mem_of_getElem? (i := 98) (by decide +kernel)) (by decide +kernel), by decide +kernel, by decide +kernel, by decide +kernel⟩
theorem MI_X0_bestFinisher : Cond.instanceMethod yX0_bestFinisher ∈ g_w ∧ Cond.selects yX0_bestFinisher.cls yX0_bestFinisher yX0_bestFinisher ∈ g_w := ⟨g_w_mem (List.mem_of_getElem? (i := 600) (by decide +kernel)) (by decide +kernel), g_w_mem (List.mem_of_getElem? (i := 601) (by decide +kernel)) (by decide +kernel)⟩
theorem MY_X0_changeClaim : g_MY yX0_changeClaim cX0_changeClaim 5 (some .int) 4 := ⟨g_w_mem (List.mem_of_getElem? (i := 1256) (by decide +kernel)) (by decide +kernel), g_w_mem (List.mem_of_getElem? (i := 98) (by decide +kernel)) (by decide +kernel), by decide +kernel, by decide +kernel, by decide +kernel⟩
theorem MI_X0_changeClaim : Cond.instanceMethod yX0_changeClaim ∈ g_w ∧ Cond.selects yX0_changeClaim.cls yX0_changeClaim yX0_changeClaim ∈ g_w := ⟨g_w_mem (List.mem_of_getElem? (i := 1254) (by decide +kernel)) (by decide +kernel), g_w_mem (List.mem_of_getElem? (i := 1255) (by decide +kernel)) (by decide +kernel)⟩
theorem MY_X0_finishesNow : g_MY yX0_finishesNow cX0_finishesNow 3 (some .boolean) 2 := ⟨g_w_mem (List.mem_of_getElem? (i := 989) (by decide +kernel)) (by decide +kernel), g_w_mem (List.mem_of_getElem? (i := 98) (by decide +kernel)) (by decide +kernel), by decide +kernel, by decide +kernel, by decide +kernel⟩
theorem MI_X0_finishesNow : Cond.instanceMethod yX0_finishesNow ∈ g_w ∧ Cond.selects yX0_finishesNow.cls yX0_finishesNow yX0_finishesNow ∈ g_w := ⟨g_w_mem (List.mem_of_getElem? (i := 987) (by decide +kernel)) (by decide +kernel), g_w_mem (List.mem_of_getElem? (i := 988) (by decide +kernel)) (by decide +kernel)⟩
theorem MY_X0_finishesWithFree : g_MY yX0_finishesWithFree cX0_finishesWithFree 5 (some .boolean) 2 := ⟨g_w_mem (List.mem_of_getElem? (i := 586) (by decide +kernel)) (by decide +kernel), g_w_mem (List.mem_of_getElem? (i := 98) (by decide +kernel)) (by decide +kernel), by decide +kernel, by decide +kernel, by decide +kernel⟩
theorem MI_X0_finishesWithFree : Cond.instanceMethod yX0_finishesWithFree ∈ g_w ∧ Cond.selects yX0_finishesWithFree.cls yX0_finishesWithFree yX0_finishesWithFree ∈ g_w := ⟨g_w_mem (List.mem_of_getElem? (i := 585) (by decide +kernel)) (by decide +kernel), g_w_mem (List.mem_of_getElem? (i := 14) (by decide +kernel)) (by decide +kernel)⟩
theorem MY_X0_goesOnWithFree : g_MY yX0_goesOnWithFree cX0_goesOnWithFree 3 (some .boolean) 2 := ⟨g_w_mem (List.mem_of_getElem? (i := 658) (by decide +kernel)) (by decide +kernel), g_w_mem (List.mem_of_getElem? (i := 98) (by decide +kernel)) (by decide +kernel), by decide +kernel, by decide +kernel, by decide +kernel⟩
theorem MI_X0_goesOnWithFree : Cond.instanceMethod yX0_goesOnWithFree ∈ g_w ∧ Cond.selects yX0_goesOnWithFree.cls yX0_goesOnWithFree yX0_goesOnWithFree ∈ g_w := ⟨g_w_mem (List.mem_of_getElem? (i := 657) (by decide +kernel)) (by decide +kernel), g_w_mem (List.mem_of_getElem? (i := 18) (by decide +kernel)) (by decide +kernel)⟩
theorem MY_X0_grantOrQueue : g_MY yX0_grantOrQueue cX0_grantOrQueue 5 (some .boolean) 4 := ⟨g_w_mem (List.mem_of_getElem? (i := 1182) (by decide +kernel)) (by decide +kernel), g_w_mem (List.mem_of_getElem? (i := 98) (by decide +kernel)) (by decide +kernel), by decide +kernel, by decide +kernel, by decide +kernel⟩
theorem MI_X0_grantOrQueue : Cond.instanceMethod yX0_grantOrQueue ∈ g_w ∧ Cond.selects yX0_grantOrQueue.cls yX0_grantOrQueue yX0_grantOrQueue ∈ g_w := ⟨g_w_mem (List.mem_of_getElem? (i := 1180) (by decide +kernel)) (by decide +kernel), g_w_mem (List.mem_of_getElem? (i := 1181) (by decide +kernel)) (by decide +kernel)⟩
theorem MY_X0_isGrantable : g_MY yX0_isGrantable cX0_isGrantable 7 (some .boolean) 4 := ⟨g_w_mem (List.mem_of_getElem? (i := 637) (by decide +kernel)) (by decide +kernel), g_w_mem (List.mem_of_getElem? (i := 98) (by decide +kernel)) (by decide +kernel), by decide +kernel, by decide +kernel, by decide +kernel⟩
theorem MI_X0_isGrantable : Cond.instanceMethod yX0_isGrantable ∈ g_w ∧ Cond.selects yX0_isGrantable.cls yX0_isGrantable yX0_isGrantable ∈ g_w := ⟨g_w_mem (List.mem_of_getElem? (i := 636) (by decide +kernel)) (by decide +kernel), g_w_mem (List.mem_of_getElem? (i := 17) (by decide +kernel)) (by decide +kernel)⟩
theorem MY_X0_leastSafeCapacity : g_MY yX0_leastSafeCapacity cX0_leastSafeCapacity 7 (some .int) 2 := ⟨g_w_mem (List.mem_of_getElem? (i := 1034) (by decide +kernel)) (by decide +kernel), g_w_mem (List.mem_of_getElem? (i := 98) (by decide +kernel)) (by decide +kernel), by decide +kernel, by decide +kernel, by decide +kernel⟩
theorem MI_X0_leastSafeCapacity : Cond.instanceMethod yX0_leastSafeCapacity ∈ g_w ∧ Cond.selects yX0_leastSafeCapacity.cls yX0_leastSafeCapacity yX0_leastSafeCapacity ∈ g_w := ⟨g_w_mem (List.mem_of_getElem? (i := 1032) (by decide +kernel)) (by decide +kernel), g_w_mem (List.mem_of_getElem? (i := 1033) (by decide +kernel)) (by decide +kernel)⟩
theorem MY_X0_mostGrantable : g_MY yX0_mostGrantable cX0_mostGrantable 5 (some .int) 3 := ⟨g_w_mem (List.mem_of_getElem? (i := 1016) (by decide +kernel)) (by decide +kernel), g_w_mem (List.mem_of_getElem? (i := 98) (by decide +kernel)) (by decide +kernel), by decide +kernel, by decide +kernel, by decide +kernel⟩
theorem MI_X0_mostGrantable : Cond.instanceMethod yX0_mostGrantable ∈ g_w ∧ Cond.selects yX0_mostGrantable.cls yX0_mostGrantable yX0_mostGrantable ∈ g_w := ⟨g_w_mem (List.mem_of_getElem? (i := 1014) (by decide +kernel)) (by decide +kernel), g_w_mem (List.mem_of_getElem? (i := 1015) (by decide +kernel)) (by decide +kernel)⟩
theorem MY_X0_reasonAgainst : g_MY yX0_reasonAgainst cX0_reasonAgainst 5 (some .int) 4 := ⟨g_w_mem (List.mem_of_getElem? (i := 1003) (by decide +kernel)) (by decide +kernel), g_w_mem (List.mem_of_getElem? (i := 98) (by decide +kernel)) (by decide +kernel), by decide +kernel, by decide +kernel, by decide +kernel⟩
theorem MI_X0_reasonAgainst : Cond.instanceMethod yX0_reasonAgainst ∈ g_w ∧ Cond.selects yX0_reasonAgainst.cls yX0_reasonAgainst yX0_reasonAgainst ∈ g_w := ⟨g_w_mem (List.mem_of_getElem? (i := 1001) (by decide +kernel)) (by decide +kernel), g_w_mem (List.mem_of_getElem? (i := 1002) (by decide +kernel)) (by decide +kernel)⟩
theorem MY_X0_resize : g_MY yX0_resize cX0_resize 4 (some .int) 3 := ⟨g_w_mem (List.mem_of_getElem? (i := 1238) (by decide +kernel)) (by decide +kernel), g_w_mem (List.mem_of_getElem? (i := 98) (by decide +kernel)) (by decide +kernel), by decide +kernel, by decide +kernel, by decide +kernel⟩
theorem MI_X0_resize : Cond.instanceMethod yX0_resize ∈ g_w ∧ Cond.selects yX0_resize.cls yX0_resize yX0_resize ∈ g_w := ⟨g_w_mem (List.mem_of_getElem? (i := 1236) (by decide +kernel)) (by decide +kernel), g_w_mem (List.mem_of_getElem? (i := 1237) (by decide +kernel)) (by decide +kernel)⟩
theorem MY_X0_serveQueue : g_MY yX0_serveQueue cX0_serveQueue 10 (some .int) 1 := ⟨g_w_mem (List.mem_of_getElem? (i := 633) (by decide +kernel)) (by decide +kernel), g_w_mem (List.mem_of_getElem? (i := 98) (by decide +kernel)) (by decide +kernel), by decide +kernel, by decide +kernel, by decide +kernel⟩
theorem MI_X0_serveQueue : Cond.instanceMethod yX0_serveQueue ∈ g_w ∧ Cond.selects yX0_serveQueue.cls yX0_serveQueue yX0_serveQueue ∈ g_w := ⟨g_w_mem (List.mem_of_getElem? (i := 632) (by decide +kernel)) (by decide +kernel), g_w_mem (List.mem_of_getElem? (i := 16) (by decide +kernel)) (by decide +kernel)⟩
theorem MY_X0_startWithAvailable : g_MY yX0_startWithAvailable cX0_startWithAvailable 5 none 1 := ⟨g_w_mem (List.mem_of_getElem? (i := 579) (by decide +kernel)) (by decide +kernel), g_w_mem (List.mem_of_getElem? (i := 98) (by decide +kernel)) (by decide +kernel), by decide +kernel, by decide +kernel, by decide +kernel⟩
theorem MI_X0_startWithAvailable : Cond.instanceMethod yX0_startWithAvailable ∈ g_w ∧ Cond.selects yX0_startWithAvailable.cls yX0_startWithAvailable yX0_startWithAvailable ∈ g_w := ⟨g_w_mem (List.mem_of_getElem? (i := 578) (by decide +kernel)) (by decide +kernel), g_w_mem (List.mem_of_getElem? (i := 13) (by decide +kernel)) (by decide +kernel)⟩
theorem MY_X0_stuckHerds : g_MY yX0_stuckHerds cX0_stuckHerds 5 (some .int) 1 := ⟨g_w_mem (List.mem_of_getElem? (i := 654) (by decide +kernel)) (by decide +kernel), g_w_mem (List.mem_of_getElem? (i := 98) (by decide +kernel)) (by decide +kernel), by decide +kernel, by decide +kernel, by decide +kernel⟩
theorem MI_X0_stuckHerds : Cond.instanceMethod yX0_stuckHerds ∈ g_w ∧ Cond.selects yX0_stuckHerds.cls yX0_stuckHerds yX0_stuckHerds ∈ g_w := ⟨g_w_mem (List.mem_of_getElem? (i := 652) (by decide +kernel)) (by decide +kernel), g_w_mem (List.mem_of_getElem? (i := 653) (by decide +kernel)) (by decide +kernel)⟩
theorem MY_X0_takeBack : g_MY yX0_takeBack cX0_takeBack 5 (some .int) 4 := ⟨g_w_mem (List.mem_of_getElem? (i := 1201) (by decide +kernel)) (by decide +kernel), g_w_mem (List.mem_of_getElem? (i := 98) (by decide +kernel)) (by decide +kernel), by decide +kernel, by decide +kernel, by decide +kernel⟩
theorem MI_X0_takeBack : Cond.instanceMethod yX0_takeBack ∈ g_w ∧ Cond.selects yX0_takeBack.cls yX0_takeBack yX0_takeBack ∈ g_w := ⟨g_w_mem (List.mem_of_getElem? (i := 1199) (by decide +kernel)) (by decide +kernel), g_w_mem (List.mem_of_getElem? (i := 1200) (by decide +kernel)) (by decide +kernel)⟩
theorem MY_X0_takeBackAll : g_MY yX0_takeBackAll cX0_takeBackAll 4 (some .int) 2 := ⟨g_w_mem (List.mem_of_getElem? (i := 620) (by decide +kernel)) (by decide +kernel), g_w_mem (List.mem_of_getElem? (i := 98) (by decide +kernel)) (by decide +kernel), by decide +kernel, by decide +kernel, by decide +kernel⟩
theorem MI_X0_takeBackAll : Cond.instanceMethod yX0_takeBackAll ∈ g_w ∧ Cond.selects yX0_takeBackAll.cls yX0_takeBackAll yX0_takeBackAll ∈ g_w := ⟨g_w_mem (List.mem_of_getElem? (i := 618) (by decide +kernel)) (by decide +kernel), g_w_mem (List.mem_of_getElem? (i := 619) (by decide +kernel)) (by decide +kernel)⟩
theorem MY_X0_withdrawRequest : g_MY yX0_withdrawRequest cX0_withdrawRequest 3 (some .int) 2 := ⟨g_w_mem (List.mem_of_getElem? (i := 1223) (by decide +kernel)) (by decide +kernel), g_w_mem (List.mem_of_getElem? (i := 98) (by decide +kernel)) (by decide +kernel), by decide +kernel, by decide +kernel, by decide +kernel⟩
theorem MI_X0_withdrawRequest : Cond.instanceMethod yX0_withdrawRequest ∈ g_w ∧ Cond.selects yX0_withdrawRequest.cls yX0_withdrawRequest yX0_withdrawRequest ∈ g_w := ⟨g_w_mem (List.mem_of_getElem? (i := 1221) (by decide +kernel)) (by decide +kernel), g_w_mem (List.mem_of_getElem? (i := 1222) (by decide +kernel)) (by decide +kernel)⟩
theorem MY_X10_execute : g_MY yX10_execute cX10_execute 6 (some .boolean) 1 := ⟨g_w_mem (List.mem_of_getElem? (i := 1335) (by decide +kernel)) (by decide +kernel), g_w_mem (List.mem_of_getElem? (i := 93) (by decide +kernel)) (by decide +kernel), by decide +kernel, by decide +kernel, by decide +kernel⟩
theorem MI_X10_execute : Cond.instanceMethod yX10_execute ∈ g_w ∧ Cond.selects yX10_execute.cls yX10_execute yX10_execute ∈ g_w := ⟨g_w_mem (List.mem_of_getElem? (i := 1334) (by decide +kernel)) (by decide +kernel), g_w_mem (List.mem_of_getElem? (i := 26) (by decide +kernel)) (by decide +kernel)⟩
theorem MY_X10_isIn : g_MY yX10_isIn cX10_isIn 2 (some .boolean) 2 := ⟨g_w_mem (List.mem_of_getElem? (i := 582) (by decide +kernel)) (by decide +kernel), g_w_mem (List.mem_of_getElem? (i := 93) (by decide +kernel)) (by decide +kernel), by decide +kernel, by decide +kernel, by decide +kernel⟩
theorem MS_X10_isIn : Cond.static yX10_isIn ∈ g_w := g_w_mem (List.mem_of_getElem? (i := 581) (by decide +kernel)) (by decide +kernel)
theorem MY_X10_writeHerd : g_MY yX10_writeHerd cX10_writeHerd 3 none 1 := ⟨g_w_mem (List.mem_of_getElem? (i := 733) (by decide +kernel)) (by decide +kernel), g_w_mem (List.mem_of_getElem? (i := 93) (by decide +kernel)) (by decide +kernel), by decide +kernel, by decide +kernel, by decide +kernel⟩
theorem MI_X10_writeHerd : Cond.instanceMethod yX10_writeHerd ∈ g_w ∧ Cond.selects yX10_writeHerd.cls yX10_writeHerd yX10_writeHerd ∈ g_w := ⟨g_w_mem (List.mem_of_getElem? (i := 732) (by decide +kernel)) (by decide +kernel), g_w_mem (List.mem_of_getElem? (i := 19) (by decide +kernel)) (by decide +kernel)⟩
theorem MY_X11_addDebt : g_MY yX11_addDebt cX11_addDebt 4 (some .int) 3 := ⟨g_w_mem (List.mem_of_getElem? (i := 1707) (by decide +kernel)) (by decide +kernel), g_w_mem (List.mem_of_getElem? (i := 108) (by decide +kernel)) (by decide +kernel), by decide +kernel, by decide +kernel, by decide +kernel⟩
theorem MI_X11_addDebt : Cond.instanceMethod yX11_addDebt ∈ g_w ∧ Cond.selects yX11_addDebt.cls yX11_addDebt yX11_addDebt ∈ g_w := ⟨g_w_mem (List.mem_of_getElem? (i := 1706) (by decide +kernel)) (by decide +kernel), g_w_mem (List.mem_of_getElem? (i := 77) (by decide +kernel)) (by decide +kernel)⟩
theorem MY_X11_allocated : g_MY yX11_allocated cX11_allocated 4 (some .int) 1 := ⟨g_w_mem (List.mem_of_getElem? (i := 1635) (by decide +kernel)) (by decide +kernel), g_w_mem (List.mem_of_getElem? (i := 108) (by decide +kernel)) (by decide +kernel), by decide +kernel, by decide +kernel, by decide +kernel⟩
theorem MI_X11_allocated : Cond.instanceMethod yX11_allocated ∈ g_w ∧ Cond.selects yX11_allocated.cls yX11_allocated yX11_allocated ∈ g_w := ⟨g_w_mem (List.mem_of_getElem? (i := 1634) (by decide +kernel)) (by decide +kernel), g_w_mem (List.mem_of_getElem? (i := 59) (by decide +kernel)) (by decide +kernel)⟩
theorem MY_X11_appendWord : g_MY yX11_appendWord cX11_appendWord 3 none 1 := ⟨g_w_mem (List.mem_of_getElem? (i := 1549) (by decide +kernel)) (by decide +kernel), g_w_mem (List.mem_of_getElem? (i := 108) (by decide +kernel)) (by decide +kernel), by decide +kernel, by decide +kernel, by decide +kernel⟩
theorem MI_X11_appendWord : Cond.instanceMethod yX11_appendWord ∈ g_w ∧ Cond.selects yX11_appendWord.cls yX11_appendWord yX11_appendWord ∈ g_w := ⟨g_w_mem (List.mem_of_getElem? (i := 1548) (by decide +kernel)) (by decide +kernel), g_w_mem (List.mem_of_getElem? (i := 43) (by decide +kernel)) (by decide +kernel)⟩
theorem MY_X11_areDebtorsDone : g_MY yX11_areDebtorsDone cX11_areDebtorsDone 3 (some .boolean) 1 := ⟨g_w_mem (List.mem_of_getElem? (i := 1883) (by decide +kernel)) (by decide +kernel), g_w_mem (List.mem_of_getElem? (i := 108) (by decide +kernel)) (by decide +kernel), by decide +kernel, by decide +kernel, by decide +kernel⟩
theorem MI_X11_areDebtorsDone : Cond.instanceMethod yX11_areDebtorsDone ∈ g_w ∧ Cond.selects yX11_areDebtorsDone.cls yX11_areDebtorsDone yX11_areDebtorsDone ∈ g_w := ⟨g_w_mem (List.mem_of_getElem? (i := 1882) (by decide +kernel)) (by decide +kernel), g_w_mem (List.mem_of_getElem? (i := 88) (by decide +kernel)) (by decide +kernel)⟩
theorem MY_X11_areThere : g_MY yX11_areThere cX11_areThere 3 (some .boolean) 2 := ⟨g_w_mem (List.mem_of_getElem? (i := 1755) (by decide +kernel)) (by decide +kernel), g_w_mem (List.mem_of_getElem? (i := 108) (by decide +kernel)) (by decide +kernel), by decide +kernel, by decide +kernel, by decide +kernel⟩
theorem MI_X11_areThere : Cond.instanceMethod yX11_areThere ∈ g_w ∧ Cond.selects yX11_areThere.cls yX11_areThere yX11_areThere ∈ g_w := ⟨g_w_mem (List.mem_of_getElem? (i := 1754) (by decide +kernel)) (by decide +kernel), g_w_mem (List.mem_of_getElem? (i := 82) (by decide +kernel)) (by decide +kernel)⟩
theorem MY_X11_begin : g_MY yX11_begin cX11_begin 1 none 0 := ⟨g_w_mem (List.mem_of_getElem? (i := 1408) (by decide +kernel)) (by decide +kernel), g_w_mem (List.mem_of_getElem? (i := 108) (by decide +kernel)) (by decide +kernel), by decide +kernel, by decide +kernel, by decide +kernel⟩
theorem MI_X11_begin : Cond.instanceMethod yX11_begin ∈ g_w ∧ Cond.selects yX11_begin.cls yX11_begin yX11_begin ∈ g_w := ⟨g_w_mem (List.mem_of_getElem? (i := 1407) (by decide +kernel)) (by decide +kernel), g_w_mem (List.mem_of_getElem? (i := 27) (by decide +kernel)) (by decide +kernel)⟩
theorem MY_X11_canDo : g_MY yX11_canDo cX11_canDo 5 (some .boolean) 4 := ⟨g_w_mem (List.mem_of_getElem? (i := 1603) (by decide +kernel)) (by decide +kernel), g_w_mem (List.mem_of_getElem? (i := 108) (by decide +kernel)) (by decide +kernel), by decide +kernel, by decide +kernel, by decide +kernel⟩
theorem MI_X11_canDo : Cond.instanceMethod yX11_canDo ∈ g_w ∧ Cond.selects yX11_canDo.cls yX11_canDo yX11_canDo ∈ g_w := ⟨g_w_mem (List.mem_of_getElem? (i := 1602) (by decide +kernel)) (by decide +kernel), g_w_mem (List.mem_of_getElem? (i := 51) (by decide +kernel)) (by decide +kernel)⟩
theorem MY_X11_canGrant : g_MY yX11_canGrant cX11_canGrant 4 (some .boolean) 3 := ⟨g_w_mem (List.mem_of_getElem? (i := 1647) (by decide +kernel)) (by decide +kernel), g_w_mem (List.mem_of_getElem? (i := 108) (by decide +kernel)) (by decide +kernel), by decide +kernel, by decide +kernel, by decide +kernel⟩
theorem MI_X11_canGrant : Cond.instanceMethod yX11_canGrant ∈ g_w ∧ Cond.selects yX11_canGrant.cls yX11_canGrant yX11_canGrant ∈ g_w := ⟨g_w_mem (List.mem_of_getElem? (i := 1646) (by decide +kernel)) (by decide +kernel), g_w_mem (List.mem_of_getElem? (i := 62) (by decide +kernel)) (by decide +kernel)⟩
theorem MY_X11_canLend : g_MY yX11_canLend cX11_canLend 4 (some .boolean) 3 := ⟨g_w_mem (List.mem_of_getElem? (i := 1619) (by decide +kernel)) (by decide +kernel), g_w_mem (List.mem_of_getElem? (i := 108) (by decide +kernel)) (by decide +kernel), by decide +kernel, by decide +kernel, by decide +kernel⟩
theorem MI_X11_canLend : Cond.instanceMethod yX11_canLend ∈ g_w ∧ Cond.selects yX11_canLend.cls yX11_canLend yX11_canLend ∈ g_w := ⟨g_w_mem (List.mem_of_getElem? (i := 1618) (by decide +kernel)) (by decide +kernel), g_w_mem (List.mem_of_getElem? (i := 55) (by decide +kernel)) (by decide +kernel)⟩
theorem MY_X11_cancelIt : g_MY yX11_cancelIt cX11_cancelIt 2 (some .int) 1 := ⟨g_w_mem (List.mem_of_getElem? (i := 1703) (by decide +kernel)) (by decide +kernel), g_w_mem (List.mem_of_getElem? (i := 108) (by decide +kernel)) (by decide +kernel), by decide +kernel, by decide +kernel, by decide +kernel⟩
theorem MI_X11_cancelIt : Cond.instanceMethod yX11_cancelIt ∈ g_w ∧ Cond.selects yX11_cancelIt.cls yX11_cancelIt yX11_cancelIt ∈ g_w := ⟨g_w_mem (List.mem_of_getElem? (i := 1702) (by decide +kernel)) (by decide +kernel), g_w_mem (List.mem_of_getElem? (i := 76) (by decide +kernel)) (by decide +kernel)⟩
theorem MY_X11_capacityOf : g_MY yX11_capacityOf cX11_capacityOf 2 (some .int) 1 := ⟨g_w_mem (List.mem_of_getElem? (i := 1476) (by decide +kernel)) (by decide +kernel), g_w_mem (List.mem_of_getElem? (i := 108) (by decide +kernel)) (by decide +kernel), by decide +kernel, by decide +kernel, by decide +kernel⟩
theorem MI_X11_capacityOf : Cond.instanceMethod yX11_capacityOf ∈ g_w ∧ Cond.selects yX11_capacityOf.cls yX11_capacityOf yX11_capacityOf ∈ g_w := ⟨g_w_mem (List.mem_of_getElem? (i := 1475) (by decide +kernel)) (by decide +kernel), g_w_mem (List.mem_of_getElem? (i := 41) (by decide +kernel)) (by decide +kernel)⟩
theorem MY_X11_commandHere : g_MY yX11_commandHere cX11_commandHere 2 (some .int) 0 := ⟨g_w_mem (List.mem_of_getElem? (i := 1573) (by decide +kernel)) (by decide +kernel), g_w_mem (List.mem_of_getElem? (i := 108) (by decide +kernel)) (by decide +kernel), by decide +kernel, by decide +kernel, by decide +kernel⟩
theorem MI_X11_commandHere : Cond.instanceMethod yX11_commandHere ∈ g_w ∧ Cond.selects yX11_commandHere.cls yX11_commandHere yX11_commandHere ∈ g_w := ⟨g_w_mem (List.mem_of_getElem? (i := 1572) (by decide +kernel)) (by decide +kernel), g_w_mem (List.mem_of_getElem? (i := 46) (by decide +kernel)) (by decide +kernel)⟩
theorem MY_X11_computeDepths : g_MY yX11_computeDepths cX11_computeDepths 4 none 0 := ⟨g_w_mem (List.mem_of_getElem? (i := 1875) (by decide +kernel)) (by decide +kernel), g_w_mem (List.mem_of_getElem? (i := 108) (by decide +kernel)) (by decide +kernel), by decide +kernel, by decide +kernel, by decide +kernel⟩
theorem MI_X11_computeDepths : Cond.instanceMethod yX11_computeDepths ∈ g_w ∧ Cond.selects yX11_computeDepths.cls yX11_computeDepths yX11_computeDepths ∈ g_w := ⟨g_w_mem (List.mem_of_getElem? (i := 1874) (by decide +kernel)) (by decide +kernel), g_w_mem (List.mem_of_getElem? (i := 87) (by decide +kernel)) (by decide +kernel)⟩
theorem MY_X11_copyBlock : g_MY yX11_copyBlock cX11_copyBlock 4 none 2 := ⟨g_w_mem (List.mem_of_getElem? (i := 1561) (by decide +kernel)) (by decide +kernel), g_w_mem (List.mem_of_getElem? (i := 108) (by decide +kernel)) (by decide +kernel), by decide +kernel, by decide +kernel, by decide +kernel⟩
theorem MI_X11_copyBlock : Cond.instanceMethod yX11_copyBlock ∈ g_w ∧ Cond.selects yX11_copyBlock.cls yX11_copyBlock yX11_copyBlock ∈ g_w := ⟨g_w_mem (List.mem_of_getElem? (i := 1560) (by decide +kernel)) (by decide +kernel), g_w_mem (List.mem_of_getElem? (i := 44) (by decide +kernel)) (by decide +kernel)⟩
theorem MY_X11_cycleLength : g_MY yX11_cycleLength cX11_cycleLength 3 (some .int) 2 := ⟨g_w_mem (List.mem_of_getElem? (i := 1623) (by decide +kernel)) (by decide +kernel), g_w_mem (List.mem_of_getElem? (i := 108) (by decide +kernel)) (by decide +kernel), by decide +kernel, by decide +kernel, by decide +kernel⟩
theorem MI_X11_cycleLength : Cond.instanceMethod yX11_cycleLength ∈ g_w ∧ Cond.selects yX11_cycleLength.cls yX11_cycleLength yX11_cycleLength ∈ g_w := ⟨g_w_mem (List.mem_of_getElem? (i := 1622) (by decide +kernel)) (by decide +kernel), g_w_mem (List.mem_of_getElem? (i := 56) (by decide +kernel)) (by decide +kernel)⟩
theorem MY_X11_debtOf : g_MY yX11_debtOf cX11_debtOf 3 (some .int) 2 := ⟨g_w_mem (List.mem_of_getElem? (i := 1631) (by decide +kernel)) (by decide +kernel), g_w_mem (List.mem_of_getElem? (i := 108) (by decide +kernel)) (by decide +kernel), by decide +kernel, by decide +kernel, by decide +kernel⟩
theorem MI_X11_debtOf : Cond.instanceMethod yX11_debtOf ∈ g_w ∧ Cond.selects yX11_debtOf.cls yX11_debtOf yX11_debtOf ∈ g_w := ⟨g_w_mem (List.mem_of_getElem? (i := 1630) (by decide +kernel)) (by decide +kernel), g_w_mem (List.mem_of_getElem? (i := 58) (by decide +kernel)) (by decide +kernel)⟩
theorem MY_X11_detect : g_MY yX11_detect cX11_detect 3 none 0 := ⟨g_w_mem (List.mem_of_getElem? (i := 1847) (by decide +kernel)) (by decide +kernel), g_w_mem (List.mem_of_getElem? (i := 108) (by decide +kernel)) (by decide +kernel), by decide +kernel, by decide +kernel, by decide +kernel⟩
theorem MI_X11_detect : Cond.instanceMethod yX11_detect ∈ g_w ∧ Cond.selects yX11_detect.cls yX11_detect yX11_detect ∈ g_w := ⟨g_w_mem (List.mem_of_getElem? (i := 1846) (by decide +kernel)) (by decide +kernel), g_w_mem (List.mem_of_getElem? (i := 86) (by decide +kernel)) (by decide +kernel)⟩
theorem MY_X11_doIt : g_MY yX11_doIt cX11_doIt 5 none 4 := ⟨g_w_mem (List.mem_of_getElem? (i := 1639) (by decide +kernel)) (by decide +kernel), g_w_mem (List.mem_of_getElem? (i := 108) (by decide +kernel)) (by decide +kernel), by decide +kernel, by decide +kernel, by decide +kernel⟩
theorem MI_X11_doIt : Cond.instanceMethod yX11_doIt ∈ g_w ∧ Cond.selects yX11_doIt.cls yX11_doIt yX11_doIt ∈ g_w := ⟨g_w_mem (List.mem_of_getElem? (i := 1638) (by decide +kernel)) (by decide +kernel), g_w_mem (List.mem_of_getElem? (i := 60) (by decide +kernel)) (by decide +kernel)⟩
theorem MY_X11_fails : g_MY yX11_fails cX11_fails 4 (some .boolean) 3 := ⟨g_w_mem (List.mem_of_getElem? (i := 1545) (by decide +kernel)) (by decide +kernel), g_w_mem (List.mem_of_getElem? (i := 108) (by decide +kernel)) (by decide +kernel), by decide +kernel, by decide +kernel, by decide +kernel⟩
theorem MI_X11_fails : Cond.instanceMethod yX11_fails ∈ g_w ∧ Cond.selects yX11_fails.cls yX11_fails yX11_fails ∈ g_w := ⟨g_w_mem (List.mem_of_getElem? (i := 1544) (by decide +kernel)) (by decide +kernel), g_w_mem (List.mem_of_getElem? (i := 42) (by decide +kernel)) (by decide +kernel)⟩
theorem MY_X11_findOrder : g_MY yX11_findOrder cX11_findOrder 4 (some .boolean) 0 := ⟨g_w_mem (List.mem_of_getElem? (i := 1663) (by decide +kernel)) (by decide +kernel), g_w_mem (List.mem_of_getElem? (i := 108) (by decide +kernel)) (by decide +kernel), by decide +kernel, by decide +kernel, by decide +kernel⟩
theorem MI_X11_findOrder : Cond.instanceMethod yX11_findOrder ∈ g_w ∧ Cond.selects yX11_findOrder.cls yX11_findOrder yX11_findOrder ∈ g_w := ⟨g_w_mem (List.mem_of_getElem? (i := 1662) (by decide +kernel)) (by decide +kernel), g_w_mem (List.mem_of_getElem? (i := 66) (by decide +kernel)) (by decide +kernel)⟩
theorem MY_X11_finishIt : g_MY yX11_finishIt cX11_finishIt 3 (some .int) 1 := ⟨g_w_mem (List.mem_of_getElem? (i := 1695) (by decide +kernel)) (by decide +kernel), g_w_mem (List.mem_of_getElem? (i := 108) (by decide +kernel)) (by decide +kernel), by decide +kernel, by decide +kernel, by decide +kernel⟩
theorem MI_X11_finishIt : Cond.instanceMethod yX11_finishIt ∈ g_w ∧ Cond.selects yX11_finishIt.cls yX11_finishIt yX11_finishIt ∈ g_w := ⟨g_w_mem (List.mem_of_getElem? (i := 1694) (by decide +kernel)) (by decide +kernel), g_w_mem (List.mem_of_getElem? (i := 74) (by decide +kernel)) (by decide +kernel)⟩
theorem MY_X11_fits : g_MY yX11_fits cX11_fits 3 (some .boolean) 1 := ⟨g_w_mem (List.mem_of_getElem? (i := 1671) (by decide +kernel)) (by decide +kernel), g_w_mem (List.mem_of_getElem? (i := 108) (by decide +kernel)) (by decide +kernel), by decide +kernel, by decide +kernel, by decide +kernel⟩
theorem MI_X11_fits : Cond.instanceMethod yX11_fits ∈ g_w ∧ Cond.selects yX11_fits.cls yX11_fits yX11_fits ∈ g_w := ⟨g_w_mem (List.mem_of_getElem? (i := 1670) (by decide +kernel)) (by decide +kernel), g_w_mem (List.mem_of_getElem? (i := 68) (by decide +kernel)) (by decide +kernel)⟩
theorem MY_X11_free : g_MY yX11_free cX11_free 2 (some .int) 1 := ⟨g_w_mem (List.mem_of_getElem? (i := 1651) (by decide +kernel)) (by decide +kernel), g_w_mem (List.mem_of_getElem? (i := 108) (by decide +kernel)) (by decide +kernel), by decide +kernel, by decide +kernel, by decide +kernel⟩
theorem MI_X11_free : Cond.instanceMethod yX11_free ∈ g_w ∧ Cond.selects yX11_free.cls yX11_free yX11_free ∈ g_w := ⟨g_w_mem (List.mem_of_getElem? (i := 1650) (by decide +kernel)) (by decide +kernel), g_w_mem (List.mem_of_getElem? (i := 63) (by decide +kernel)) (by decide +kernel)⟩
theorem MY_X11_giveBack : g_MY yX11_giveBack cX11_giveBack 3 none 1 := ⟨g_w_mem (List.mem_of_getElem? (i := 1675) (by decide +kernel)) (by decide +kernel), g_w_mem (List.mem_of_getElem? (i := 108) (by decide +kernel)) (by decide +kernel), by decide +kernel, by decide +kernel, by decide +kernel⟩
theorem MI_X11_giveBack : Cond.instanceMethod yX11_giveBack ∈ g_w ∧ Cond.selects yX11_giveBack.cls yX11_giveBack yX11_giveBack ∈ g_w := ⟨g_w_mem (List.mem_of_getElem? (i := 1674) (by decide +kernel)) (by decide +kernel), g_w_mem (List.mem_of_getElem? (i := 69) (by decide +kernel)) (by decide +kernel)⟩
theorem MY_X11_grantOnce : g_MY yX11_grantOnce cX11_grantOnce 6 (some .int) 0 := ⟨g_w_mem (List.mem_of_getElem? (i := 1687) (by decide +kernel)) (by decide +kernel), g_w_mem (List.mem_of_getElem? (i := 108) (by decide +kernel)) (by decide +kernel), by decide +kernel, by decide +kernel, by decide +kernel⟩
theorem MI_X11_grantOnce : Cond.instanceMethod yX11_grantOnce ∈ g_w ∧ Cond.selects yX11_grantOnce.cls yX11_grantOnce yX11_grantOnce ∈ g_w := ⟨g_w_mem (List.mem_of_getElem? (i := 1686) (by decide +kernel)) (by decide +kernel), g_w_mem (List.mem_of_getElem? (i := 72) (by decide +kernel)) (by decide +kernel)⟩
theorem MY_X11_herdNamed : g_MY yX11_herdNamed cX11_herdNamed 4 (some .int) 2 := ⟨g_w_mem (List.mem_of_getElem? (i := 1472) (by decide +kernel)) (by decide +kernel), g_w_mem (List.mem_of_getElem? (i := 108) (by decide +kernel)) (by decide +kernel), by decide +kernel, by decide +kernel, by decide +kernel⟩
theorem MI_X11_herdNamed : Cond.instanceMethod yX11_herdNamed ∈ g_w ∧ Cond.selects yX11_herdNamed.cls yX11_herdNamed yX11_herdNamed ∈ g_w := ⟨g_w_mem (List.mem_of_getElem? (i := 1471) (by decide +kernel)) (by decide +kernel), g_w_mem (List.mem_of_getElem? (i := 40) (by decide +kernel)) (by decide +kernel)⟩
theorem MY_X11_in : g_MY yX11_in cX11_in 3 (some .boolean) 3 := ⟨g_w_mem (List.mem_of_getElem? (i := 1463) (by decide +kernel)) (by decide +kernel), g_w_mem (List.mem_of_getElem? (i := 108) (by decide +kernel)) (by decide +kernel), by decide +kernel, by decide +kernel, by decide +kernel⟩
theorem MS_X11_in : Cond.static yX11_in ∈ g_w := g_w_mem (List.mem_of_getElem? (i := 1462) (by decide +kernel)) (by decide +kernel)
theorem MY_X11_isDigit : g_MY yX11_isDigit cX11_isDigit 1 (some .boolean) 1 := ⟨g_w_mem (List.mem_of_getElem? (i := 1418) (by decide +kernel)) (by decide +kernel), g_w_mem (List.mem_of_getElem? (i := 108) (by decide +kernel)) (by decide +kernel), by decide +kernel, by decide +kernel, by decide +kernel⟩
theorem MS_X11_isDigit : Cond.static yX11_isDigit ∈ g_w := g_w_mem (List.mem_of_getElem? (i := 1417) (by decide +kernel)) (by decide +kernel)
theorem MY_X11_isHerd : g_MY yX11_isHerd cX11_isHerd 2 (some .boolean) 1 := ⟨g_w_mem (List.mem_of_getElem? (i := 1759) (by decide +kernel)) (by decide +kernel), g_w_mem (List.mem_of_getElem? (i := 108) (by decide +kernel)) (by decide +kernel), by decide +kernel, by decide +kernel, by decide +kernel⟩
theorem MI_X11_isHerd : Cond.instanceMethod yX11_isHerd ∈ g_w ∧ Cond.selects yX11_isHerd.cls yX11_isHerd yX11_isHerd ∈ g_w := ⟨g_w_mem (List.mem_of_getElem? (i := 1758) (by decide +kernel)) (by decide +kernel), g_w_mem (List.mem_of_getElem? (i := 83) (by decide +kernel)) (by decide +kernel)⟩
theorem MY_X11_isNamed : g_MY yX11_isNamed cX11_isNamed 5 (some .boolean) 3 := ⟨g_w_mem (List.mem_of_getElem? (i := 1452) (by decide +kernel)) (by decide +kernel), g_w_mem (List.mem_of_getElem? (i := 108) (by decide +kernel)) (by decide +kernel), by decide +kernel, by decide +kernel, by decide +kernel⟩
theorem MI_X11_isNamed : Cond.instanceMethod yX11_isNamed ∈ g_w ∧ Cond.selects yX11_isNamed.cls yX11_isNamed yX11_isNamed ∈ g_w := ⟨g_w_mem (List.mem_of_getElem? (i := 1451) (by decide +kernel)) (by decide +kernel), g_w_mem (List.mem_of_getElem? (i := 36) (by decide +kernel)) (by decide +kernel)⟩
theorem MY_X11_isPasture : g_MY yX11_isPasture cX11_isPasture 2 (some .boolean) 1 := ⟨g_w_mem (List.mem_of_getElem? (i := 1743) (by decide +kernel)) (by decide +kernel), g_w_mem (List.mem_of_getElem? (i := 108) (by decide +kernel)) (by decide +kernel), by decide +kernel, by decide +kernel, by decide +kernel⟩
theorem MI_X11_isPasture : Cond.instanceMethod yX11_isPasture ∈ g_w ∧ Cond.selects yX11_isPasture.cls yX11_isPasture yX11_isPasture ∈ g_w := ⟨g_w_mem (List.mem_of_getElem? (i := 1742) (by decide +kernel)) (by decide +kernel), g_w_mem (List.mem_of_getElem? (i := 81) (by decide +kernel)) (by decide +kernel)⟩
theorem MY_X11_isSafeWith : g_MY yX11_isSafeWith cX11_isSafeWith 5 (some .boolean) 3 := ⟨g_w_mem (List.mem_of_getElem? (i := 1655) (by decide +kernel)) (by decide +kernel), g_w_mem (List.mem_of_getElem? (i := 108) (by decide +kernel)) (by decide +kernel), by decide +kernel, by decide +kernel, by decide +kernel⟩
theorem MI_X11_isSafeWith : Cond.instanceMethod yX11_isSafeWith ∈ g_w ∧ Cond.selects yX11_isSafeWith.cls yX11_isSafeWith yX11_isSafeWith ∈ g_w := ⟨g_w_mem (List.mem_of_getElem? (i := 1654) (by decide +kernel)) (by decide +kernel), g_w_mem (List.mem_of_getElem? (i := 64) (by decide +kernel)) (by decide +kernel)⟩
theorem MY_X11_isShortWord : g_MY yX11_isShortWord cX11_isShortWord 1 (some .boolean) 0 := ⟨g_w_mem (List.mem_of_getElem? (i := 1444) (by decide +kernel)) (by decide +kernel), g_w_mem (List.mem_of_getElem? (i := 108) (by decide +kernel)) (by decide +kernel), by decide +kernel, by decide +kernel, by decide +kernel⟩
theorem MI_X11_isShortWord : Cond.instanceMethod yX11_isShortWord ∈ g_w ∧ Cond.selects yX11_isShortWord.cls yX11_isShortWord yX11_isShortWord ∈ g_w := ⟨g_w_mem (List.mem_of_getElem? (i := 1443) (by decide +kernel)) (by decide +kernel), g_w_mem (List.mem_of_getElem? (i := 34) (by decide +kernel)) (by decide +kernel)⟩
theorem MY_X11_isSmall : g_MY yX11_isSmall cX11_isSmall 1 (some .boolean) 1 := ⟨g_w_mem (List.mem_of_getElem? (i := 1415) (by decide +kernel)) (by decide +kernel), g_w_mem (List.mem_of_getElem? (i := 108) (by decide +kernel)) (by decide +kernel), by decide +kernel, by decide +kernel, by decide +kernel⟩
theorem MS_X11_isSmall : Cond.static yX11_isSmall ∈ g_w := g_w_mem (List.mem_of_getElem? (i := 1414) (by decide +kernel)) (by decide +kernel)
theorem MY_X11_isWaitingHerd : g_MY yX11_isWaitingHerd cX11_isWaitingHerd 2 (some .boolean) 1 := ⟨g_w_mem (List.mem_of_getElem? (i := 1607) (by decide +kernel)) (by decide +kernel), g_w_mem (List.mem_of_getElem? (i := 108) (by decide +kernel)) (by decide +kernel), by decide +kernel, by decide +kernel, by decide +kernel⟩
theorem MI_X11_isWaitingHerd : Cond.instanceMethod yX11_isWaitingHerd ∈ g_w ∧ Cond.selects yX11_isWaitingHerd.cls yX11_isWaitingHerd yX11_isWaitingHerd ∈ g_w := ⟨g_w_mem (List.mem_of_getElem? (i := 1606) (by decide +kernel)) (by decide +kernel), g_w_mem (List.mem_of_getElem? (i := 52) (by decide +kernel)) (by decide +kernel)⟩
theorem MY_X11_isWord : g_MY yX11_isWord cX11_isWord 3 (some .boolean) 1 := ⟨g_w_mem (List.mem_of_getElem? (i := 1427) (by decide +kernel)) (by decide +kernel), g_w_mem (List.mem_of_getElem? (i := 108) (by decide +kernel)) (by decide +kernel), by decide +kernel, by decide +kernel, by decide +kernel⟩
theorem MI_X11_isWord : Cond.instanceMethod yX11_isWord ∈ g_w ∧ Cond.selects yX11_isWord.cls yX11_isWord yX11_isWord ∈ g_w := ⟨g_w_mem (List.mem_of_getElem? (i := 1426) (by decide +kernel)) (by decide +kernel), g_w_mem (List.mem_of_getElem? (i := 30) (by decide +kernel)) (by decide +kernel)⟩
theorem MY_X11_leastMaximum : g_MY yX11_leastMaximum cX11_leastMaximum 3 (some .int) 2 := ⟨g_w_mem (List.mem_of_getElem? (i := 1947) (by decide +kernel)) (by decide +kernel), g_w_mem (List.mem_of_getElem? (i := 108) (by decide +kernel)) (by decide +kernel), by decide +kernel, by decide +kernel, by decide +kernel⟩
theorem MI_X11_leastMaximum : Cond.instanceMethod yX11_leastMaximum ∈ g_w ∧ Cond.selects yX11_leastMaximum.cls yX11_leastMaximum yX11_leastMaximum ∈ g_w := ⟨g_w_mem (List.mem_of_getElem? (i := 1946) (by decide +kernel)) (by decide +kernel), g_w_mem (List.mem_of_getElem? (i := 90) (by decide +kernel)) (by decide +kernel)⟩
theorem MY_X11_letterAt : g_MY yX11_letterAt cX11_letterAt 4 (some .int) 3 := ⟨g_w_mem (List.mem_of_getElem? (i := 1775) (by decide +kernel)) (by decide +kernel), g_w_mem (List.mem_of_getElem? (i := 108) (by decide +kernel)) (by decide +kernel), by decide +kernel, by decide +kernel, by decide +kernel⟩
theorem MI_X11_letterAt : Cond.instanceMethod yX11_letterAt ∈ g_w ∧ Cond.selects yX11_letterAt.cls yX11_letterAt yX11_letterAt ∈ g_w := ⟨g_w_mem (List.mem_of_getElem? (i := 1774) (by decide +kernel)) (by decide +kernel), g_w_mem (List.mem_of_getElem? (i := 84) (by decide +kernel)) (by decide +kernel)⟩
theorem MY_X11_nameOf : g_MY yX11_nameOf cX11_nameOf 1 (some (.object "java/lang/String")) 1 := ⟨g_w_mem (List.mem_of_getElem? (i := 1576) (by decide +kernel)) (by decide +kernel), g_w_mem (List.mem_of_getElem? (i := 108) (by decide +kernel)) (by decide +kernel), by decide +kernel, by decide +kernel, by decide +kernel⟩
theorem MS_X11_nameOf : Cond.static yX11_nameOf ∈ g_w := g_w_mem (List.mem_of_getElem? (i := 1575) (by decide +kernel)) (by decide +kernel)
theorem MY_X11_needOf : g_MY yX11_needOf cX11_needOf 3 (some .int) 2 := ⟨g_w_mem (List.mem_of_getElem? (i := 1615) (by decide +kernel)) (by decide +kernel), g_w_mem (List.mem_of_getElem? (i := 108) (by decide +kernel)) (by decide +kernel), by decide +kernel, by decide +kernel, by decide +kernel⟩
theorem MI_X11_needOf : Cond.instanceMethod yX11_needOf ∈ g_w ∧ Cond.selects yX11_needOf.cls yX11_needOf yX11_needOf ∈ g_w := ⟨g_w_mem (List.mem_of_getElem? (i := 1614) (by decide +kernel)) (by decide +kernel), g_w_mem (List.mem_of_getElem? (i := 54) (by decide +kernel)) (by decide +kernel)⟩
theorem MY_X11_of : g_MY yX11_of cX11_of 3 (some .int) 2 := ⟨g_w_mem (List.mem_of_getElem? (i := 1611) (by decide +kernel)) (by decide +kernel), g_w_mem (List.mem_of_getElem? (i := 108) (by decide +kernel)) (by decide +kernel), by decide +kernel, by decide +kernel, by decide +kernel⟩
theorem MI_X11_of : Cond.instanceMethod yX11_of ∈ g_w ∧ Cond.selects yX11_of.cls yX11_of yX11_of ∈ g_w := ⟨g_w_mem (List.mem_of_getElem? (i := 1610) (by decide +kernel)) (by decide +kernel), g_w_mem (List.mem_of_getElem? (i := 53) (by decide +kernel)) (by decide +kernel)⟩
theorem MY_X11_parseArguments : g_MY yX11_parseArguments cX11_parseArguments 3 (some .boolean) 2 := ⟨g_w_mem (List.mem_of_getElem? (i := 1587) (by decide +kernel)) (by decide +kernel), g_w_mem (List.mem_of_getElem? (i := 108) (by decide +kernel)) (by decide +kernel), by decide +kernel, by decide +kernel, by decide +kernel⟩
theorem MI_X11_parseArguments : Cond.instanceMethod yX11_parseArguments ∈ g_w ∧ Cond.selects yX11_parseArguments.cls yX11_parseArguments yX11_parseArguments ∈ g_w := ⟨g_w_mem (List.mem_of_getElem? (i := 1586) (by decide +kernel)) (by decide +kernel), g_w_mem (List.mem_of_getElem? (i := 47) (by decide +kernel)) (by decide +kernel)⟩
theorem MY_X11_parseHerd : g_MY yX11_parseHerd cX11_parseHerd 3 (some .boolean) 0 := ⟨g_w_mem (List.mem_of_getElem? (i := 1468) (by decide +kernel)) (by decide +kernel), g_w_mem (List.mem_of_getElem? (i := 108) (by decide +kernel)) (by decide +kernel), by decide +kernel, by decide +kernel, by decide +kernel⟩
theorem MI_X11_parseHerd : Cond.instanceMethod yX11_parseHerd ∈ g_w ∧ Cond.selects yX11_parseHerd.cls yX11_parseHerd yX11_parseHerd ∈ g_w := ⟨g_w_mem (List.mem_of_getElem? (i := 1467) (by decide +kernel)) (by decide +kernel), g_w_mem (List.mem_of_getElem? (i := 39) (by decide +kernel)) (by decide +kernel)⟩
theorem MY_X11_parseNamed : g_MY yX11_parseNamed cX11_parseNamed 3 (some .boolean) 2 := ⟨g_w_mem (List.mem_of_getElem? (i := 1591) (by decide +kernel)) (by decide +kernel), g_w_mem (List.mem_of_getElem? (i := 108) (by decide +kernel)) (by decide +kernel), by decide +kernel, by decide +kernel, by decide +kernel⟩
theorem MI_X11_parseNamed : Cond.instanceMethod yX11_parseNamed ∈ g_w ∧ Cond.selects yX11_parseNamed.cls yX11_parseNamed yX11_parseNamed ∈ g_w := ⟨g_w_mem (List.mem_of_getElem? (i := 1590) (by decide +kernel)) (by decide +kernel), g_w_mem (List.mem_of_getElem? (i := 48) (by decide +kernel)) (by decide +kernel)⟩
theorem MY_X11_parseNumber : g_MY yX11_parseNumber cX11_parseNumber 2 (some .boolean) 1 := ⟨g_w_mem (List.mem_of_getElem? (i := 1595) (by decide +kernel)) (by decide +kernel), g_w_mem (List.mem_of_getElem? (i := 108) (by decide +kernel)) (by decide +kernel), by decide +kernel, by decide +kernel, by decide +kernel⟩
theorem MI_X11_parseNumber : Cond.instanceMethod yX11_parseNumber ∈ g_w ∧ Cond.selects yX11_parseNumber.cls yX11_parseNumber yX11_parseNumber ∈ g_w := ⟨g_w_mem (List.mem_of_getElem? (i := 1594) (by decide +kernel)) (by decide +kernel), g_w_mem (List.mem_of_getElem? (i := 49) (by decide +kernel)) (by decide +kernel)⟩
theorem MY_X11_parsePasture : g_MY yX11_parsePasture cX11_parsePasture 2 (some .boolean) 0 := ⟨g_w_mem (List.mem_of_getElem? (i := 1440) (by decide +kernel)) (by decide +kernel), g_w_mem (List.mem_of_getElem? (i := 108) (by decide +kernel)) (by decide +kernel), by decide +kernel, by decide +kernel, by decide +kernel⟩
theorem MI_X11_parsePasture : Cond.instanceMethod yX11_parsePasture ∈ g_w ∧ Cond.selects yX11_parsePasture.cls yX11_parsePasture yX11_parsePasture ∈ g_w := ⟨g_w_mem (List.mem_of_getElem? (i := 1439) (by decide +kernel)) (by decide +kernel), g_w_mem (List.mem_of_getElem? (i := 33) (by decide +kernel)) (by decide +kernel)⟩
theorem MY_X11_parseRanged : g_MY yX11_parseRanged cX11_parseRanged 4 (some .boolean) 3 := ⟨g_w_mem (List.mem_of_getElem? (i := 1460) (by decide +kernel)) (by decide +kernel), g_w_mem (List.mem_of_getElem? (i := 108) (by decide +kernel)) (by decide +kernel), by decide +kernel, by decide +kernel, by decide +kernel⟩
theorem MI_X11_parseRanged : Cond.instanceMethod yX11_parseRanged ∈ g_w ∧ Cond.selects yX11_parseRanged.cls yX11_parseRanged yX11_parseRanged ∈ g_w := ⟨g_w_mem (List.mem_of_getElem? (i := 1459) (by decide +kernel)) (by decide +kernel), g_w_mem (List.mem_of_getElem? (i := 38) (by decide +kernel)) (by decide +kernel)⟩
theorem MY_X11_parseScript : g_MY yX11_parseScript cX11_parseScript 4 (some .int) 0 := ⟨g_w_mem (List.mem_of_getElem? (i := 1569) (by decide +kernel)) (by decide +kernel), g_w_mem (List.mem_of_getElem? (i := 108) (by decide +kernel)) (by decide +kernel), by decide +kernel, by decide +kernel, by decide +kernel⟩
theorem MI_X11_parseScript : Cond.instanceMethod yX11_parseScript ∈ g_w ∧ Cond.selects yX11_parseScript.cls yX11_parseScript yX11_parseScript ∈ g_w := ⟨g_w_mem (List.mem_of_getElem? (i := 1568) (by decide +kernel)) (by decide +kernel), g_w_mem (List.mem_of_getElem? (i := 45) (by decide +kernel)) (by decide +kernel)⟩
theorem MY_X11_parseSetup : g_MY yX11_parseSetup cX11_parseSetup 2 (some .boolean) 0 := ⟨g_w_mem (List.mem_of_getElem? (i := 1422) (by decide +kernel)) (by decide +kernel), g_w_mem (List.mem_of_getElem? (i := 108) (by decide +kernel)) (by decide +kernel), by decide +kernel, by decide +kernel, by decide +kernel⟩
theorem MI_X11_parseSetup : Cond.instanceMethod yX11_parseSetup ∈ g_w ∧ Cond.selects yX11_parseSetup.cls yX11_parseSetup yX11_parseSetup ∈ g_w := ⟨g_w_mem (List.mem_of_getElem? (i := 1421) (by decide +kernel)) (by decide +kernel), g_w_mem (List.mem_of_getElem? (i := 29) (by decide +kernel)) (by decide +kernel)⟩
theorem MY_X11_pastureNamed : g_MY yX11_pastureNamed cX11_pastureNamed 4 (some .int) 2 := ⟨g_w_mem (List.mem_of_getElem? (i := 1448) (by decide +kernel)) (by decide +kernel), g_w_mem (List.mem_of_getElem? (i := 108) (by decide +kernel)) (by decide +kernel), by decide +kernel, by decide +kernel, by decide +kernel⟩
theorem MI_X11_pastureNamed : Cond.instanceMethod yX11_pastureNamed ∈ g_w ∧ Cond.selects yX11_pastureNamed.cls yX11_pastureNamed yX11_pastureNamed ∈ g_w := ⟨g_w_mem (List.mem_of_getElem? (i := 1447) (by decide +kernel)) (by decide +kernel), g_w_mem (List.mem_of_getElem? (i := 35) (by decide +kernel)) (by decide +kernel)⟩
theorem MY_X11_plain : g_MY yX11_plain cX11_plain 2 (some .int) 1 := ⟨g_w_mem (List.mem_of_getElem? (i := 1731) (by decide +kernel)) (by decide +kernel), g_w_mem (List.mem_of_getElem? (i := 108) (by decide +kernel)) (by decide +kernel), by decide +kernel, by decide +kernel, by decide +kernel⟩
theorem MI_X11_plain : Cond.instanceMethod yX11_plain ∈ g_w ∧ Cond.selects yX11_plain.cls yX11_plain yX11_plain ∈ g_w := ⟨g_w_mem (List.mem_of_getElem? (i := 1730) (by decide +kernel)) (by decide +kernel), g_w_mem (List.mem_of_getElem? (i := 80) (by decide +kernel)) (by decide +kernel)⟩
theorem MY_X11_process : g_MY yX11_process cX11_process 3 (some .int) 0 := ⟨g_w_mem (List.mem_of_getElem? (i := 1683) (by decide +kernel)) (by decide +kernel), g_w_mem (List.mem_of_getElem? (i := 108) (by decide +kernel)) (by decide +kernel), by decide +kernel, by decide +kernel, by decide +kernel⟩
theorem MI_X11_process : Cond.instanceMethod yX11_process ∈ g_w ∧ Cond.selects yX11_process.cls yX11_process yX11_process ∈ g_w := ⟨g_w_mem (List.mem_of_getElem? (i := 1682) (by decide +kernel)) (by decide +kernel), g_w_mem (List.mem_of_getElem? (i := 71) (by decide +kernel)) (by decide +kernel)⟩
theorem MY_X11_put : g_MY yX11_put cX11_put 2 none 1 := ⟨g_w_mem (List.mem_of_getElem? (i := 1975) (by decide +kernel)) (by decide +kernel), g_w_mem (List.mem_of_getElem? (i := 108) (by decide +kernel)) (by decide +kernel), by decide +kernel, by decide +kernel, by decide +kernel⟩
theorem MI_X11_put : Cond.instanceMethod yX11_put ∈ g_w ∧ Cond.selects yX11_put.cls yX11_put yX11_put ∈ g_w := ⟨g_w_mem (List.mem_of_getElem? (i := 1974) (by decide +kernel)) (by decide +kernel), g_w_mem (List.mem_of_getElem? (i := 91) (by decide +kernel)) (by decide +kernel)⟩
theorem MY_X11_putName : g_MY yX11_putName cX11_putName 3 none 1 := ⟨g_w_mem (List.mem_of_getElem? (i := 1456) (by decide +kernel)) (by decide +kernel), g_w_mem (List.mem_of_getElem? (i := 108) (by decide +kernel)) (by decide +kernel), by decide +kernel, by decide +kernel, by decide +kernel⟩
theorem MI_X11_putName : Cond.instanceMethod yX11_putName ∈ g_w ∧ Cond.selects yX11_putName.cls yX11_putName yX11_putName ∈ g_w := ⟨g_w_mem (List.mem_of_getElem? (i := 1455) (by decide +kernel)) (by decide +kernel), g_w_mem (List.mem_of_getElem? (i := 37) (by decide +kernel)) (by decide +kernel)⟩
theorem MY_X11_reachesItself : g_MY yX11_reachesItself cX11_reachesItself 3 (some .boolean) 1 := ⟨g_w_mem (List.mem_of_getElem? (i := 1919) (by decide +kernel)) (by decide +kernel), g_w_mem (List.mem_of_getElem? (i := 108) (by decide +kernel)) (by decide +kernel), by decide +kernel, by decide +kernel, by decide +kernel⟩
theorem MI_X11_reachesItself : Cond.instanceMethod yX11_reachesItself ∈ g_w ∧ Cond.selects yX11_reachesItself.cls yX11_reachesItself yX11_reachesItself ∈ g_w := ⟨g_w_mem (List.mem_of_getElem? (i := 1918) (by decide +kernel)) (by decide +kernel), g_w_mem (List.mem_of_getElem? (i := 89) (by decide +kernel)) (by decide +kernel)⟩
theorem MY_X11_refusal : g_MY yX11_refusal cX11_refusal 4 (some .int) 3 := ⟨g_w_mem (List.mem_of_getElem? (i := 1803) (by decide +kernel)) (by decide +kernel), g_w_mem (List.mem_of_getElem? (i := 108) (by decide +kernel)) (by decide +kernel), by decide +kernel, by decide +kernel, by decide +kernel⟩
theorem MI_X11_refusal : Cond.instanceMethod yX11_refusal ∈ g_w ∧ Cond.selects yX11_refusal.cls yX11_refusal yX11_refusal ∈ g_w := ⟨g_w_mem (List.mem_of_getElem? (i := 1802) (by decide +kernel)) (by decide +kernel), g_w_mem (List.mem_of_getElem? (i := 85) (by decide +kernel)) (by decide +kernel)⟩
theorem MY_X11_releaseIt : g_MY yX11_releaseIt cX11_releaseIt 4 (some .int) 3 := ⟨g_w_mem (List.mem_of_getElem? (i := 1679) (by decide +kernel)) (by decide +kernel), g_w_mem (List.mem_of_getElem? (i := 108) (by decide +kernel)) (by decide +kernel), by decide +kernel, by decide +kernel, by decide +kernel⟩
theorem MI_X11_releaseIt : Cond.instanceMethod yX11_releaseIt ∈ g_w ∧ Cond.selects yX11_releaseIt.cls yX11_releaseIt yX11_releaseIt ∈ g_w := ⟨g_w_mem (List.mem_of_getElem? (i := 1678) (by decide +kernel)) (by decide +kernel), g_w_mem (List.mem_of_getElem? (i := 70) (by decide +kernel)) (by decide +kernel)⟩
theorem MY_X11_remember : g_MY yX11_remember cX11_remember 3 none 1 := ⟨g_w_mem (List.mem_of_getElem? (i := 1599) (by decide +kernel)) (by decide +kernel), g_w_mem (List.mem_of_getElem? (i := 108) (by decide +kernel)) (by decide +kernel), by decide +kernel, by decide +kernel, by decide +kernel⟩
theorem MI_X11_remember : Cond.instanceMethod yX11_remember ∈ g_w ∧ Cond.selects yX11_remember.cls yX11_remember yX11_remember ∈ g_w := ⟨g_w_mem (List.mem_of_getElem? (i := 1598) (by decide +kernel)) (by decide +kernel), g_w_mem (List.mem_of_getElem? (i := 50) (by decide +kernel)) (by decide +kernel)⟩
theorem MY_X11_removeAt : g_MY yX11_removeAt cX11_removeAt 4 none 1 := ⟨g_w_mem (List.mem_of_getElem? (i := 1691) (by decide +kernel)) (by decide +kernel), g_w_mem (List.mem_of_getElem? (i := 108) (by decide +kernel)) (by decide +kernel), by decide +kernel, by decide +kernel, by decide +kernel⟩
theorem MI_X11_removeAt : Cond.instanceMethod yX11_removeAt ∈ g_w ∧ Cond.selects yX11_removeAt.cls yX11_removeAt yX11_removeAt ∈ g_w := ⟨g_w_mem (List.mem_of_getElem? (i := 1690) (by decide +kernel)) (by decide +kernel), g_w_mem (List.mem_of_getElem? (i := 73) (by decide +kernel)) (by decide +kernel)⟩
theorem MY_X11_requestIt : g_MY yX11_requestIt cX11_requestIt 4 (some .boolean) 3 := ⟨g_w_mem (List.mem_of_getElem? (i := 1643) (by decide +kernel)) (by decide +kernel), g_w_mem (List.mem_of_getElem? (i := 108) (by decide +kernel)) (by decide +kernel), by decide +kernel, by decide +kernel, by decide +kernel⟩
theorem MI_X11_requestIt : Cond.instanceMethod yX11_requestIt ∈ g_w ∧ Cond.selects yX11_requestIt.cls yX11_requestIt yX11_requestIt ∈ g_w := ⟨g_w_mem (List.mem_of_getElem? (i := 1642) (by decide +kernel)) (by decide +kernel), g_w_mem (List.mem_of_getElem? (i := 61) (by decide +kernel)) (by decide +kernel)⟩
theorem MY_X11_resizeIt : g_MY yX11_resizeIt cX11_resizeIt 3 (some .int) 2 := ⟨g_w_mem (List.mem_of_getElem? (i := 1711) (by decide +kernel)) (by decide +kernel), g_w_mem (List.mem_of_getElem? (i := 108) (by decide +kernel)) (by decide +kernel), by decide +kernel, by decide +kernel, by decide +kernel⟩
theorem MI_X11_resizeIt : Cond.instanceMethod yX11_resizeIt ∈ g_w ∧ Cond.selects yX11_resizeIt.cls yX11_resizeIt yX11_resizeIt ∈ g_w := ⟨g_w_mem (List.mem_of_getElem? (i := 1710) (by decide +kernel)) (by decide +kernel), g_w_mem (List.mem_of_getElem? (i := 78) (by decide +kernel)) (by decide +kernel)⟩
theorem MY_X11_semicolon : g_MY yX11_semicolon cX11_semicolon 1 (some .boolean) 0 := ⟨g_w_mem (List.mem_of_getElem? (i := 1435) (by decide +kernel)) (by decide +kernel), g_w_mem (List.mem_of_getElem? (i := 108) (by decide +kernel)) (by decide +kernel), by decide +kernel, by decide +kernel, by decide +kernel⟩
theorem MI_X11_semicolon : Cond.instanceMethod yX11_semicolon ∈ g_w ∧ Cond.selects yX11_semicolon.cls yX11_semicolon yX11_semicolon ∈ g_w := ⟨g_w_mem (List.mem_of_getElem? (i := 1434) (by decide +kernel)) (by decide +kernel), g_w_mem (List.mem_of_getElem? (i := 32) (by decide +kernel)) (by decide +kernel)⟩
theorem MY_X11_set : g_MY yX11_set cX11_set 4 none 3 := ⟨g_w_mem (List.mem_of_getElem? (i := 1659) (by decide +kernel)) (by decide +kernel), g_w_mem (List.mem_of_getElem? (i := 108) (by decide +kernel)) (by decide +kernel), by decide +kernel, by decide +kernel, by decide +kernel⟩
theorem MI_X11_set : Cond.instanceMethod yX11_set ∈ g_w ∧ Cond.selects yX11_set.cls yX11_set yX11_set ∈ g_w := ⟨g_w_mem (List.mem_of_getElem? (i := 1658) (by decide +kernel)) (by decide +kernel), g_w_mem (List.mem_of_getElem? (i := 65) (by decide +kernel)) (by decide +kernel)⟩
theorem MY_X11_setCapacityOf : g_MY yX11_setCapacityOf cX11_setCapacityOf 3 none 2 := ⟨g_w_mem (List.mem_of_getElem? (i := 1715) (by decide +kernel)) (by decide +kernel), g_w_mem (List.mem_of_getElem? (i := 108) (by decide +kernel)) (by decide +kernel), by decide +kernel, by decide +kernel, by decide +kernel⟩
theorem MI_X11_setCapacityOf : Cond.instanceMethod yX11_setCapacityOf ∈ g_w ∧ Cond.selects yX11_setCapacityOf.cls yX11_setCapacityOf yX11_setCapacityOf ∈ g_w := ⟨g_w_mem (List.mem_of_getElem? (i := 1714) (by decide +kernel)) (by decide +kernel), g_w_mem (List.mem_of_getElem? (i := 79) (by decide +kernel)) (by decide +kernel)⟩
theorem MY_X11_takeFree : g_MY yX11_takeFree cX11_takeFree 2 none 0 := ⟨g_w_mem (List.mem_of_getElem? (i := 1667) (by decide +kernel)) (by decide +kernel), g_w_mem (List.mem_of_getElem? (i := 108) (by decide +kernel)) (by decide +kernel), by decide +kernel, by decide +kernel, by decide +kernel⟩
theorem MI_X11_takeFree : Cond.instanceMethod yX11_takeFree ∈ g_w ∧ Cond.selects yX11_takeFree.cls yX11_takeFree yX11_takeFree ∈ g_w := ⟨g_w_mem (List.mem_of_getElem? (i := 1666) (by decide +kernel)) (by decide +kernel), g_w_mem (List.mem_of_getElem? (i := 67) (by decide +kernel)) (by decide +kernel)⟩
theorem MY_X11_token : g_MY yX11_token cX11_token 1 none 0 := ⟨g_w_mem (List.mem_of_getElem? (i := 1412) (by decide +kernel)) (by decide +kernel), g_w_mem (List.mem_of_getElem? (i := 108) (by decide +kernel)) (by decide +kernel), by decide +kernel, by decide +kernel, by decide +kernel⟩
theorem MI_X11_token : Cond.instanceMethod yX11_token ∈ g_w ∧ Cond.selects yX11_token.cls yX11_token yX11_token ∈ g_w := ⟨g_w_mem (List.mem_of_getElem? (i := 1411) (by decide +kernel)) (by decide +kernel), g_w_mem (List.mem_of_getElem? (i := 28) (by decide +kernel)) (by decide +kernel)⟩
theorem MY_X11_walkFrom : g_MY yX11_walkFrom cX11_walkFrom 5 none 1 := ⟨g_w_mem (List.mem_of_getElem? (i := 1627) (by decide +kernel)) (by decide +kernel), g_w_mem (List.mem_of_getElem? (i := 108) (by decide +kernel)) (by decide +kernel), by decide +kernel, by decide +kernel, by decide +kernel⟩
theorem MI_X11_walkFrom : Cond.instanceMethod yX11_walkFrom ∈ g_w ∧ Cond.selects yX11_walkFrom.cls yX11_walkFrom yX11_walkFrom ∈ g_w := ⟨g_w_mem (List.mem_of_getElem? (i := 1626) (by decide +kernel)) (by decide +kernel), g_w_mem (List.mem_of_getElem? (i := 57) (by decide +kernel)) (by decide +kernel)⟩
theorem MY_X11_withdraw : g_MY yX11_withdraw cX11_withdraw 3 none 1 := ⟨g_w_mem (List.mem_of_getElem? (i := 1699) (by decide +kernel)) (by decide +kernel), g_w_mem (List.mem_of_getElem? (i := 108) (by decide +kernel)) (by decide +kernel), by decide +kernel, by decide +kernel, by decide +kernel⟩
theorem MI_X11_withdraw : Cond.instanceMethod yX11_withdraw ∈ g_w ∧ Cond.selects yX11_withdraw.cls yX11_withdraw yX11_withdraw ∈ g_w := ⟨g_w_mem (List.mem_of_getElem? (i := 1698) (by decide +kernel)) (by decide +kernel), g_w_mem (List.mem_of_getElem? (i := 75) (by decide +kernel)) (by decide +kernel)⟩
theorem MY_X11_wrong : g_MY yX11_wrong cX11_wrong 2 (some .boolean) 1 := ⟨g_w_mem (List.mem_of_getElem? (i := 1431) (by decide +kernel)) (by decide +kernel), g_w_mem (List.mem_of_getElem? (i := 108) (by decide +kernel)) (by decide +kernel), by decide +kernel, by decide +kernel, by decide +kernel⟩
theorem MI_X11_wrong : Cond.instanceMethod yX11_wrong ∈ g_w ∧ Cond.selects yX11_wrong.cls yX11_wrong yX11_wrong ∈ g_w := ⟨g_w_mem (List.mem_of_getElem? (i := 1430) (by decide +kernel)) (by decide +kernel), g_w_mem (List.mem_of_getElem? (i := 31) (by decide +kernel)) (by decide +kernel)⟩
theorem MY_X1_change : g_MY yX1_change cX1_change 5 (some .int) 3 := ⟨g_w_mem (List.mem_of_getElem? (i := 1275) (by decide +kernel)) (by decide +kernel), g_w_mem (List.mem_of_getElem? (i := 101) (by decide +kernel)) (by decide +kernel), by decide +kernel, by decide +kernel, by decide +kernel⟩
theorem MI_X1_change : Cond.instanceMethod yX1_change ∈ g_w ∧ Cond.selects yX1_change.cls yX1_change yX1_change ∈ g_w := ⟨g_w_mem (List.mem_of_getElem? (i := 1273) (by decide +kernel)) (by decide +kernel), g_w_mem (List.mem_of_getElem? (i := 1274) (by decide +kernel)) (by decide +kernel)⟩
theorem MY_X1_clear : g_MY yX1_clear cX1_clear 2 none 0 := ⟨g_w_mem (List.mem_of_getElem? (i := 459) (by decide +kernel)) (by decide +kernel), g_w_mem (List.mem_of_getElem? (i := 101) (by decide +kernel)) (by decide +kernel), by decide +kernel, by decide +kernel, by decide +kernel⟩
theorem MI_X1_clear : Cond.instanceMethod yX1_clear ∈ g_w ∧ Cond.selects yX1_clear.cls yX1_clear yX1_clear ∈ g_w := ⟨g_w_mem (List.mem_of_getElem? (i := 457) (by decide +kernel)) (by decide +kernel), g_w_mem (List.mem_of_getElem? (i := 458) (by decide +kernel)) (by decide +kernel)⟩
theorem MY_X1_copyFrom : g_MY yX1_copyFrom cX1_copyFrom 2 none 1 := ⟨g_w_mem (List.mem_of_getElem? (i := 615) (by decide +kernel)) (by decide +kernel), g_w_mem (List.mem_of_getElem? (i := 101) (by decide +kernel)) (by decide +kernel), by decide +kernel, by decide +kernel, by decide +kernel⟩
theorem MI_X1_copyFrom : Cond.instanceMethod yX1_copyFrom ∈ g_w ∧ Cond.selects yX1_copyFrom.cls yX1_copyFrom yX1_copyFrom ∈ g_w := ⟨g_w_mem (List.mem_of_getElem? (i := 613) (by decide +kernel)) (by decide +kernel), g_w_mem (List.mem_of_getElem? (i := 614) (by decide +kernel)) (by decide +kernel)⟩
theorem MY_X1_creditorsOf : g_MY yX1_creditorsOf cX1_creditorsOf 5 (some .int) 1 := ⟨g_w_mem (List.mem_of_getElem? (i := 1117) (by decide +kernel)) (by decide +kernel), g_w_mem (List.mem_of_getElem? (i := 101) (by decide +kernel)) (by decide +kernel), by decide +kernel, by decide +kernel, by decide +kernel⟩
theorem MI_X1_creditorsOf : Cond.instanceMethod yX1_creditorsOf ∈ g_w ∧ Cond.selects yX1_creditorsOf.cls yX1_creditorsOf yX1_creditorsOf ∈ g_w := ⟨g_w_mem (List.mem_of_getElem? (i := 1115) (by decide +kernel)) (by decide +kernel), g_w_mem (List.mem_of_getElem? (i := 1116) (by decide +kernel)) (by decide +kernel)⟩
theorem MY_X1_cycleClosedBy : g_MY yX1_cycleClosedBy cX1_cycleClosedBy 5 (some .int) 2 := ⟨g_w_mem (List.mem_of_getElem? (i := 1113) (by decide +kernel)) (by decide +kernel), g_w_mem (List.mem_of_getElem? (i := 101) (by decide +kernel)) (by decide +kernel), by decide +kernel, by decide +kernel, by decide +kernel⟩
theorem MI_X1_cycleClosedBy : Cond.instanceMethod yX1_cycleClosedBy ∈ g_w ∧ Cond.selects yX1_cycleClosedBy.cls yX1_cycleClosedBy yX1_cycleClosedBy ∈ g_w := ⟨g_w_mem (List.mem_of_getElem? (i := 1111) (by decide +kernel)) (by decide +kernel), g_w_mem (List.mem_of_getElem? (i := 1112) (by decide +kernel)) (by decide +kernel)⟩
theorem MY_X1_debtorsOf : g_MY yX1_debtorsOf cX1_debtorsOf 5 (some .int) 1 := ⟨g_w_mem (List.mem_of_getElem? (i := 721) (by decide +kernel)) (by decide +kernel), g_w_mem (List.mem_of_getElem? (i := 101) (by decide +kernel)) (by decide +kernel), by decide +kernel, by decide +kernel, by decide +kernel⟩
theorem MI_X1_debtorsOf : Cond.instanceMethod yX1_debtorsOf ∈ g_w ∧ Cond.selects yX1_debtorsOf.cls yX1_debtorsOf yX1_debtorsOf ∈ g_w := ⟨g_w_mem (List.mem_of_getElem? (i := 719) (by decide +kernel)) (by decide +kernel), g_w_mem (List.mem_of_getElem? (i := 720) (by decide +kernel)) (by decide +kernel)⟩
theorem MY_X1_herdsInCycles : g_MY yX1_herdsInCycles cX1_herdsInCycles 3 (some .int) 0 := ⟨g_w_mem (List.mem_of_getElem? (i := 713) (by decide +kernel)) (by decide +kernel), g_w_mem (List.mem_of_getElem? (i := 101) (by decide +kernel)) (by decide +kernel), by decide +kernel, by decide +kernel, by decide +kernel⟩
theorem MI_X1_herdsInCycles : Cond.instanceMethod yX1_herdsInCycles ∈ g_w ∧ Cond.selects yX1_herdsInCycles.cls yX1_herdsInCycles yX1_herdsInCycles ∈ g_w := ⟨g_w_mem (List.mem_of_getElem? (i := 711) (by decide +kernel)) (by decide +kernel), g_w_mem (List.mem_of_getElem? (i := 712) (by decide +kernel)) (by decide +kernel)⟩
theorem MY_X1_herdsReaching : g_MY yX1_herdsReaching cX1_herdsReaching 4 (some .int) 1 := ⟨g_w_mem (List.mem_of_getElem? (i := 717) (by decide +kernel)) (by decide +kernel), g_w_mem (List.mem_of_getElem? (i := 101) (by decide +kernel)) (by decide +kernel), by decide +kernel, by decide +kernel, by decide +kernel⟩
theorem MI_X1_herdsReaching : Cond.instanceMethod yX1_herdsReaching ∈ g_w ∧ Cond.selects yX1_herdsReaching.cls yX1_herdsReaching yX1_herdsReaching ∈ g_w := ⟨g_w_mem (List.mem_of_getElem? (i := 715) (by decide +kernel)) (by decide +kernel), g_w_mem (List.mem_of_getElem? (i := 716) (by decide +kernel)) (by decide +kernel)⟩
theorem MY_X1_longestChain : g_MY yX1_longestChain cX1_longestChain 4 (some .int) 1 := ⟨g_w_mem (List.mem_of_getElem? (i := 1128) (by decide +kernel)) (by decide +kernel), g_w_mem (List.mem_of_getElem? (i := 101) (by decide +kernel)) (by decide +kernel), by decide +kernel, by decide +kernel, by decide +kernel⟩
theorem MI_X1_longestChain : Cond.instanceMethod yX1_longestChain ∈ g_w ∧ Cond.selects yX1_longestChain.cls yX1_longestChain yX1_longestChain ∈ g_w := ⟨g_w_mem (List.mem_of_getElem? (i := 1126) (by decide +kernel)) (by decide +kernel), g_w_mem (List.mem_of_getElem? (i := 1127) (by decide +kernel)) (by decide +kernel)⟩
theorem MY_X1_nextToSettle : g_MY yX1_nextToSettle cX1_nextToSettle 3 (some .int) 1 := ⟨g_w_mem (List.mem_of_getElem? (i := 1143) (by decide +kernel)) (by decide +kernel), g_w_mem (List.mem_of_getElem? (i := 101) (by decide +kernel)) (by decide +kernel), by decide +kernel, by decide +kernel, by decide +kernel⟩
theorem MI_X1_nextToSettle : Cond.instanceMethod yX1_nextToSettle ∈ g_w ∧ Cond.selects yX1_nextToSettle.cls yX1_nextToSettle yX1_nextToSettle ∈ g_w := ⟨g_w_mem (List.mem_of_getElem? (i := 1142) (by decide +kernel)) (by decide +kernel), g_w_mem (List.mem_of_getElem? (i := 21) (by decide +kernel)) (by decide +kernel)⟩
theorem MY_X1_owed : g_MY yX1_owed cX1_owed 3 (some .int) 2 := ⟨g_w_mem (List.mem_of_getElem? (i := 697) (by decide +kernel)) (by decide +kernel), g_w_mem (List.mem_of_getElem? (i := 101) (by decide +kernel)) (by decide +kernel), by decide +kernel, by decide +kernel, by decide +kernel⟩
theorem MI_X1_owed : Cond.instanceMethod yX1_owed ∈ g_w ∧ Cond.selects yX1_owed.cls yX1_owed yX1_owed ∈ g_w := ⟨g_w_mem (List.mem_of_getElem? (i := 695) (by decide +kernel)) (by decide +kernel), g_w_mem (List.mem_of_getElem? (i := 696) (by decide +kernel)) (by decide +kernel)⟩
theorem MY_X1_settledAt : g_MY yX1_settledAt cX1_settledAt 5 (some .int) 1 := ⟨g_w_mem (List.mem_of_getElem? (i := 1139) (by decide +kernel)) (by decide +kernel), g_w_mem (List.mem_of_getElem? (i := 101) (by decide +kernel)) (by decide +kernel), by decide +kernel, by decide +kernel, by decide +kernel⟩
theorem MI_X1_settledAt : Cond.instanceMethod yX1_settledAt ∈ g_w ∧ Cond.selects yX1_settledAt.cls yX1_settledAt yX1_settledAt ∈ g_w := ⟨g_w_mem (List.mem_of_getElem? (i := 1137) (by decide +kernel)) (by decide +kernel), g_w_mem (List.mem_of_getElem? (i := 1138) (by decide +kernel)) (by decide +kernel)⟩
theorem MY_X1_sumBetween : g_MY yX1_sumBetween cX1_sumBetween 6 (some .int) 2 := ⟨g_w_mem (List.mem_of_getElem? (i := 692) (by decide +kernel)) (by decide +kernel), g_w_mem (List.mem_of_getElem? (i := 101) (by decide +kernel)) (by decide +kernel), by decide +kernel, by decide +kernel, by decide +kernel⟩
theorem MI_X1_sumBetween : Cond.instanceMethod yX1_sumBetween ∈ g_w ∧ Cond.selects yX1_sumBetween.cls yX1_sumBetween yX1_sumBetween ∈ g_w := ⟨g_w_mem (List.mem_of_getElem? (i := 690) (by decide +kernel)) (by decide +kernel), g_w_mem (List.mem_of_getElem? (i := 691) (by decide +kernel)) (by decide +kernel)⟩
theorem MY_X2_ofCancel : g_MY yX2_ofCancel cX2_ofCancel 2 (some .int) 2 := ⟨g_w_mem (List.mem_of_getElem? (i := 1219) (by decide +kernel)) (by decide +kernel), g_w_mem (List.mem_of_getElem? (i := 114) (by decide +kernel)) (by decide +kernel), by decide +kernel, by decide +kernel, by decide +kernel⟩
theorem MS_X2_ofCancel : Cond.static yX2_ofCancel ∈ g_w := g_w_mem (List.mem_of_getElem? (i := 1218) (by decide +kernel)) (by decide +kernel)
theorem MY_X2_ofCapacity : g_MY yX2_ofCapacity cX2_ofCapacity 3 (some .int) 3 := ⟨g_w_mem (List.mem_of_getElem? (i := 1233) (by decide +kernel)) (by decide +kernel), g_w_mem (List.mem_of_getElem? (i := 114) (by decide +kernel)) (by decide +kernel), by decide +kernel, by decide +kernel, by decide +kernel⟩
theorem MS_X2_ofCapacity : Cond.static yX2_ofCapacity ∈ g_w := g_w_mem (List.mem_of_getElem? (i := 1232) (by decide +kernel)) (by decide +kernel)
theorem MY_X2_ofCoins : g_MY yX2_ofCoins cX2_ofCoins 4 (some .int) 4 := ⟨g_w_mem (List.mem_of_getElem? (i := 1269) (by decide +kernel)) (by decide +kernel), g_w_mem (List.mem_of_getElem? (i := 114) (by decide +kernel)) (by decide +kernel), by decide +kernel, by decide +kernel, by decide +kernel⟩
theorem MS_X2_ofCoins : Cond.static yX2_ofCoins ∈ g_w := g_w_mem (List.mem_of_getElem? (i := 1268) (by decide +kernel)) (by decide +kernel)
theorem MY_X2_ofCommand : g_MY yX2_ofCommand cX2_ofCommand 5 (some .int) 5 := ⟨g_w_mem (List.mem_of_getElem? (i := 1346) (by decide +kernel)) (by decide +kernel), g_w_mem (List.mem_of_getElem? (i := 114) (by decide +kernel)) (by decide +kernel), by decide +kernel, by decide +kernel, by decide +kernel⟩
theorem MS_X2_ofCommand : Cond.static yX2_ofCommand ∈ g_w := g_w_mem (List.mem_of_getElem? (i := 1345) (by decide +kernel)) (by decide +kernel)
theorem MY_X2_ofHerd : g_MY yX2_ofHerd cX2_ofHerd 2 (some .int) 2 := ⟨g_w_mem (List.mem_of_getElem? (i := 985) (by decide +kernel)) (by decide +kernel), g_w_mem (List.mem_of_getElem? (i := 114) (by decide +kernel)) (by decide +kernel), by decide +kernel, by decide +kernel, by decide +kernel⟩
theorem MS_X2_ofHerd : Cond.static yX2_ofHerd ∈ g_w := g_w_mem (List.mem_of_getElem? (i := 984) (by decide +kernel)) (by decide +kernel)
theorem MY_X2_ofHerdOrPasture : g_MY yX2_ofHerdOrPasture cX2_ofHerdOrPasture 3 (some .int) 3 := ⟨g_w_mem (List.mem_of_getElem? (i := 918) (by decide +kernel)) (by decide +kernel), g_w_mem (List.mem_of_getElem? (i := 114) (by decide +kernel)) (by decide +kernel), by decide +kernel, by decide +kernel, by decide +kernel⟩
theorem MS_X2_ofHerdOrPasture : Cond.static yX2_ofHerdOrPasture ∈ g_w := g_w_mem (List.mem_of_getElem? (i := 917) (by decide +kernel)) (by decide +kernel)
theorem MY_X2_ofLetter : g_MY yX2_ofLetter cX2_ofLetter 3 (some .int) 3 := ⟨g_w_mem (List.mem_of_getElem? (i := 943) (by decide +kernel)) (by decide +kernel), g_w_mem (List.mem_of_getElem? (i := 114) (by decide +kernel)) (by decide +kernel), by decide +kernel, by decide +kernel, by decide +kernel⟩
theorem MS_X2_ofLetter : Cond.static yX2_ofLetter ∈ g_w := g_w_mem (List.mem_of_getElem? (i := 942) (by decide +kernel)) (by decide +kernel)
theorem MY_X2_ofLoan : g_MY yX2_ofLoan cX2_ofLoan 5 (some .int) 4 := ⟨g_w_mem (List.mem_of_getElem? (i := 1266) (by decide +kernel)) (by decide +kernel), g_w_mem (List.mem_of_getElem? (i := 114) (by decide +kernel)) (by decide +kernel), by decide +kernel, by decide +kernel, by decide +kernel⟩
theorem MS_X2_ofLoan : Cond.static yX2_ofLoan ∈ g_w := g_w_mem (List.mem_of_getElem? (i := 1265) (by decide +kernel)) (by decide +kernel)
theorem MY_X2_ofMaximum : g_MY yX2_ofMaximum cX2_ofMaximum 5 (some .int) 4 := ⟨g_w_mem (List.mem_of_getElem? (i := 1248) (by decide +kernel)) (by decide +kernel), g_w_mem (List.mem_of_getElem? (i := 114) (by decide +kernel)) (by decide +kernel), by decide +kernel, by decide +kernel, by decide +kernel⟩
theorem MS_X2_ofMaximum : Cond.static yX2_ofMaximum ∈ g_w := g_w_mem (List.mem_of_getElem? (i := 1247) (by decide +kernel)) (by decide +kernel)
theorem MY_X2_ofPasture : g_MY yX2_ofPasture cX2_ofPasture 2 (some .int) 2 := ⟨g_w_mem (List.mem_of_getElem? (i := 868) (by decide +kernel)) (by decide +kernel), g_w_mem (List.mem_of_getElem? (i := 114) (by decide +kernel)) (by decide +kernel), by decide +kernel, by decide +kernel, by decide +kernel⟩
theorem MS_X2_ofPasture : Cond.static yX2_ofPasture ∈ g_w := g_w_mem (List.mem_of_getElem? (i := 867) (by decide +kernel)) (by decide +kernel)
theorem MY_X2_ofRelease : g_MY yX2_ofRelease cX2_ofRelease 5 (some .int) 4 := ⟨g_w_mem (List.mem_of_getElem? (i := 1196) (by decide +kernel)) (by decide +kernel), g_w_mem (List.mem_of_getElem? (i := 114) (by decide +kernel)) (by decide +kernel), by decide +kernel, by decide +kernel, by decide +kernel⟩
theorem MS_X2_ofRelease : Cond.static yX2_ofRelease ∈ g_w := g_w_mem (List.mem_of_getElem? (i := 1195) (by decide +kernel)) (by decide +kernel)
theorem MY_X2_ofRepayment : g_MY yX2_ofRepayment cX2_ofRepayment 5 (some .int) 4 := ⟨g_w_mem (List.mem_of_getElem? (i := 1285) (by decide +kernel)) (by decide +kernel), g_w_mem (List.mem_of_getElem? (i := 114) (by decide +kernel)) (by decide +kernel), by decide +kernel, by decide +kernel, by decide +kernel⟩
theorem MS_X2_ofRepayment : Cond.static yX2_ofRepayment ∈ g_w := g_w_mem (List.mem_of_getElem? (i := 1284) (by decide +kernel)) (by decide +kernel)
theorem MY_X2_ofRequest : g_MY yX2_ofRequest cX2_ofRequest 5 (some .int) 4 := ⟨g_w_mem (List.mem_of_getElem? (i := 1169) (by decide +kernel)) (by decide +kernel), g_w_mem (List.mem_of_getElem? (i := 114) (by decide +kernel)) (by decide +kernel), by decide +kernel, by decide +kernel, by decide +kernel⟩
theorem MS_X2_ofRequest : Cond.static yX2_ofRequest ∈ g_w := g_w_mem (List.mem_of_getElem? (i := 1168) (by decide +kernel)) (by decide +kernel)
theorem MY_X2_ofSlot : g_MY yX2_ofSlot cX2_ofSlot 1 (some .int) 1 := ⟨g_w_mem (List.mem_of_getElem? (i := 1375) (by decide +kernel)) (by decide +kernel), g_w_mem (List.mem_of_getElem? (i := 114) (by decide +kernel)) (by decide +kernel), by decide +kernel, by decide +kernel, by decide +kernel⟩
theorem MS_X2_ofSlot : Cond.static yX2_ofSlot ∈ g_w := g_w_mem (List.mem_of_getElem? (i := 1374) (by decide +kernel)) (by decide +kernel)
theorem MY_X2_ofTwoHerds : g_MY yX2_ofTwoHerds cX2_ofTwoHerds 3 (some .int) 3 := ⟨g_w_mem (List.mem_of_getElem? (i := 1066) (by decide +kernel)) (by decide +kernel), g_w_mem (List.mem_of_getElem? (i := 114) (by decide +kernel)) (by decide +kernel), by decide +kernel, by decide +kernel, by decide +kernel⟩
theorem MS_X2_ofTwoHerds : Cond.static yX2_ofTwoHerds ∈ g_w := g_w_mem (List.mem_of_getElem? (i := 1065) (by decide +kernel)) (by decide +kernel)
theorem MY_X2_ofUnits : g_MY yX2_ofUnits cX2_ofUnits 4 (some .int) 4 := ⟨g_w_mem (List.mem_of_getElem? (i := 999) (by decide +kernel)) (by decide +kernel), g_w_mem (List.mem_of_getElem? (i := 114) (by decide +kernel)) (by decide +kernel), by decide +kernel, by decide +kernel, by decide +kernel⟩
theorem MS_X2_ofUnits : Cond.static yX2_ofUnits ∈ g_w := g_w_mem (List.mem_of_getElem? (i := 998) (by decide +kernel)) (by decide +kernel)
theorem MY_X3_remember : g_MY yX3_remember cX3_remember 2 none 1 := ⟨g_w_mem (List.mem_of_getElem? (i := 1176) (by decide +kernel)) (by decide +kernel), g_w_mem (List.mem_of_getElem? (i := 102) (by decide +kernel)) (by decide +kernel), by decide +kernel, by decide +kernel, by decide +kernel⟩
theorem MI_X3_remember : Cond.instanceMethod yX3_remember ∈ g_w ∧ Cond.selects yX3_remember.cls yX3_remember yX3_remember ∈ g_w := ⟨g_w_mem (List.mem_of_getElem? (i := 1174) (by decide +kernel)) (by decide +kernel), g_w_mem (List.mem_of_getElem? (i := 1175) (by decide +kernel)) (by decide +kernel)⟩
theorem MY_X3_takeBack : g_MY yX3_takeBack cX3_takeBack 2 none 1 := ⟨g_w_mem (List.mem_of_getElem? (i := 1365) (by decide +kernel)) (by decide +kernel), g_w_mem (List.mem_of_getElem? (i := 102) (by decide +kernel)) (by decide +kernel), by decide +kernel, by decide +kernel, by decide +kernel⟩
theorem MI_X3_takeBack : Cond.instanceMethod yX3_takeBack ∈ g_w ∧ Cond.selects yX3_takeBack.cls yX3_takeBack yX3_takeBack ∈ g_w := ⟨g_w_mem (List.mem_of_getElem? (i := 1363) (by decide +kernel)) (by decide +kernel), g_w_mem (List.mem_of_getElem? (i := 1364) (by decide +kernel)) (by decide +kernel)⟩
theorem MY_X4_isDigit : g_MY yX4_isDigit cX4_isDigit 1 (some .boolean) 1 := ⟨g_w_mem (List.mem_of_getElem? (i := 444) (by decide +kernel)) (by decide +kernel), g_w_mem (List.mem_of_getElem? (i := 95) (by decide +kernel)) (by decide +kernel), by decide +kernel, by decide +kernel, by decide +kernel⟩
theorem MS_X4_isDigit : Cond.static yX4_isDigit ∈ g_w := g_w_mem (List.mem_of_getElem? (i := 443) (by decide +kernel)) (by decide +kernel)
theorem MY_X4_isLetter : g_MY yX4_isLetter cX4_isLetter 1 (some .boolean) 1 := ⟨g_w_mem (List.mem_of_getElem? (i := 441) (by decide +kernel)) (by decide +kernel), g_w_mem (List.mem_of_getElem? (i := 95) (by decide +kernel)) (by decide +kernel), by decide +kernel, by decide +kernel, by decide +kernel⟩
theorem MS_X4_isLetter : Cond.static yX4_isLetter ∈ g_w := g_w_mem (List.mem_of_getElem? (i := 440) (by decide +kernel)) (by decide +kernel)
theorem MY_X4_isSeparator : g_MY yX4_isSeparator cX4_isSeparator 1 (some .boolean) 1 := ⟨g_w_mem (List.mem_of_getElem? (i := 438) (by decide +kernel)) (by decide +kernel), g_w_mem (List.mem_of_getElem? (i := 95) (by decide +kernel)) (by decide +kernel), by decide +kernel, by decide +kernel, by decide +kernel⟩
theorem MS_X4_isSeparator : Cond.static yX4_isSeparator ∈ g_w := g_w_mem (List.mem_of_getElem? (i := 437) (by decide +kernel)) (by decide +kernel)
theorem MY_X4_isWord : g_MY yX4_isWord cX4_isWord 3 (some .boolean) 1 := ⟨g_w_mem (List.mem_of_getElem? (i := 468) (by decide +kernel)) (by decide +kernel), g_w_mem (List.mem_of_getElem? (i := 95) (by decide +kernel)) (by decide +kernel), by decide +kernel, by decide +kernel, by decide +kernel⟩
theorem MI_X4_isWord : Cond.instanceMethod yX4_isWord ∈ g_w ∧ Cond.selects yX4_isWord.cls yX4_isWord yX4_isWord ∈ g_w := ⟨g_w_mem (List.mem_of_getElem? (i := 466) (by decide +kernel)) (by decide +kernel), g_w_mem (List.mem_of_getElem? (i := 467) (by decide +kernel)) (by decide +kernel)⟩
theorem MY_X4_put : g_MY yX4_put cX4_put 2 none 1 := ⟨g_w_mem (List.mem_of_getElem? (i := 419) (by decide +kernel)) (by decide +kernel), g_w_mem (List.mem_of_getElem? (i := 95) (by decide +kernel)) (by decide +kernel), by decide +kernel, by decide +kernel, by decide +kernel⟩
theorem MI_X4_put : Cond.instanceMethod yX4_put ∈ g_w ∧ Cond.selects yX4_put.cls yX4_put yX4_put ∈ g_w := ⟨g_w_mem (List.mem_of_getElem? (i := 418) (by decide +kernel)) (by decide +kernel), g_w_mem (List.mem_of_getElem? (i := 0) (by decide +kernel)) (by decide +kernel)⟩
theorem MY_X4_putFourBytes : g_MY yX4_putFourBytes cX4_putFourBytes 2 none 1 := ⟨g_w_mem (List.mem_of_getElem? (i := 824) (by decide +kernel)) (by decide +kernel), g_w_mem (List.mem_of_getElem? (i := 95) (by decide +kernel)) (by decide +kernel), by decide +kernel, by decide +kernel, by decide +kernel⟩
theorem MI_X4_putFourBytes : Cond.instanceMethod yX4_putFourBytes ∈ g_w ∧ Cond.selects yX4_putFourBytes.cls yX4_putFourBytes yX4_putFourBytes ∈ g_w := ⟨g_w_mem (List.mem_of_getElem? (i := 822) (by decide +kernel)) (by decide +kernel), g_w_mem (List.mem_of_getElem? (i := 823) (by decide +kernel)) (by decide +kernel)⟩
theorem MY_X4_readFirst : g_MY yX4_readFirst cX4_readFirst 1 none 0 := ⟨g_w_mem (List.mem_of_getElem? (i := 431) (by decide +kernel)) (by decide +kernel), g_w_mem (List.mem_of_getElem? (i := 95) (by decide +kernel)) (by decide +kernel), by decide +kernel, by decide +kernel, by decide +kernel⟩
theorem MI_X4_readFirst : Cond.instanceMethod yX4_readFirst ∈ g_w ∧ Cond.selects yX4_readFirst.cls yX4_readFirst yX4_readFirst ∈ g_w := ⟨g_w_mem (List.mem_of_getElem? (i := 429) (by decide +kernel)) (by decide +kernel), g_w_mem (List.mem_of_getElem? (i := 430) (by decide +kernel)) (by decide +kernel)⟩
theorem MY_X4_readNext : g_MY yX4_readNext cX4_readNext 1 none 0 := ⟨g_w_mem (List.mem_of_getElem? (i := 435) (by decide +kernel)) (by decide +kernel), g_w_mem (List.mem_of_getElem? (i := 95) (by decide +kernel)) (by decide +kernel), by decide +kernel, by decide +kernel, by decide +kernel⟩
theorem MI_X4_readNext : Cond.instanceMethod yX4_readNext ∈ g_w ∧ Cond.selects yX4_readNext.cls yX4_readNext yX4_readNext ∈ g_w := ⟨g_w_mem (List.mem_of_getElem? (i := 433) (by decide +kernel)) (by decide +kernel), g_w_mem (List.mem_of_getElem? (i := 434) (by decide +kernel)) (by decide +kernel)⟩
theorem MY_X4_readSign : g_MY yX4_readSign cX4_readSign 1 none 0 := ⟨g_w_mem (List.mem_of_getElem? (i := 448) (by decide +kernel)) (by decide +kernel), g_w_mem (List.mem_of_getElem? (i := 95) (by decide +kernel)) (by decide +kernel), by decide +kernel, by decide +kernel, by decide +kernel⟩
theorem MI_X4_readSign : Cond.instanceMethod yX4_readSign ∈ g_w ∧ Cond.selects yX4_readSign.cls yX4_readSign yX4_readSign ∈ g_w := ⟨g_w_mem (List.mem_of_getElem? (i := 447) (by decide +kernel)) (by decide +kernel), g_w_mem (List.mem_of_getElem? (i := 2) (by decide +kernel)) (by decide +kernel)⟩
theorem MY_X5_add : g_MY yX5_add cX5_add 4 none 3 := ⟨g_w_mem (List.mem_of_getElem? (i := 502) (by decide +kernel)) (by decide +kernel), g_w_mem (List.mem_of_getElem? (i := 100) (by decide +kernel)) (by decide +kernel), by decide +kernel, by decide +kernel, by decide +kernel⟩
theorem MI_X5_add : Cond.instanceMethod yX5_add ∈ g_w ∧ Cond.selects yX5_add.cls yX5_add yX5_add ∈ g_w := ⟨g_w_mem (List.mem_of_getElem? (i := 500) (by decide +kernel)) (by decide +kernel), g_w_mem (List.mem_of_getElem? (i := 501) (by decide +kernel)) (by decide +kernel)⟩
theorem MY_X5_copyFrom : g_MY yX5_copyFrom cX5_copyFrom 2 none 1 := ⟨g_w_mem (List.mem_of_getElem? (i := 610) (by decide +kernel)) (by decide +kernel), g_w_mem (List.mem_of_getElem? (i := 100) (by decide +kernel)) (by decide +kernel), by decide +kernel, by decide +kernel, by decide +kernel⟩
theorem MI_X5_copyFrom : Cond.instanceMethod yX5_copyFrom ∈ g_w ∧ Cond.selects yX5_copyFrom.cls yX5_copyFrom yX5_copyFrom ∈ g_w := ⟨g_w_mem (List.mem_of_getElem? (i := 608) (by decide +kernel)) (by decide +kernel), g_w_mem (List.mem_of_getElem? (i := 609) (by decide +kernel)) (by decide +kernel)⟩
theorem MY_X5_find : g_MY yX5_find cX5_find 5 (some .int) 3 := ⟨g_w_mem (List.mem_of_getElem? (i := 494) (by decide +kernel)) (by decide +kernel), g_w_mem (List.mem_of_getElem? (i := 100) (by decide +kernel)) (by decide +kernel), by decide +kernel, by decide +kernel, by decide +kernel⟩
theorem MI_X5_find : Cond.instanceMethod yX5_find ∈ g_w ∧ Cond.selects yX5_find.cls yX5_find yX5_find ∈ g_w := ⟨g_w_mem (List.mem_of_getElem? (i := 492) (by decide +kernel)) (by decide +kernel), g_w_mem (List.mem_of_getElem? (i := 493) (by decide +kernel)) (by decide +kernel)⟩
theorem MY_X5_has : g_MY yX5_has cX5_has 2 (some .boolean) 1 := ⟨g_w_mem (List.mem_of_getElem? (i := 872) (by decide +kernel)) (by decide +kernel), g_w_mem (List.mem_of_getElem? (i := 100) (by decide +kernel)) (by decide +kernel), by decide +kernel, by decide +kernel, by decide +kernel⟩
theorem MI_X5_has : Cond.instanceMethod yX5_has ∈ g_w ∧ Cond.selects yX5_has.cls yX5_has yX5_has ∈ g_w := ⟨g_w_mem (List.mem_of_getElem? (i := 870) (by decide +kernel)) (by decide +kernel), g_w_mem (List.mem_of_getElem? (i := 871) (by decide +kernel)) (by decide +kernel)⟩
theorem MY_X5_isAt : g_MY yX5_isAt cX5_isAt 5 (some .boolean) 3 := ⟨g_w_mem (List.mem_of_getElem? (i := 498) (by decide +kernel)) (by decide +kernel), g_w_mem (List.mem_of_getElem? (i := 100) (by decide +kernel)) (by decide +kernel), by decide +kernel, by decide +kernel, by decide +kernel⟩
theorem MI_X5_isAt : Cond.instanceMethod yX5_isAt ∈ g_w ∧ Cond.selects yX5_isAt.cls yX5_isAt yX5_isAt ∈ g_w := ⟨g_w_mem (List.mem_of_getElem? (i := 497) (by decide +kernel)) (by decide +kernel), g_w_mem (List.mem_of_getElem? (i := 9) (by decide +kernel)) (by decide +kernel)⟩
theorem MY_X5_letter : g_MY yX5_letter cX5_letter 3 (some .int) 2 := ⟨g_w_mem (List.mem_of_getElem? (i := 737) (by decide +kernel)) (by decide +kernel), g_w_mem (List.mem_of_getElem? (i := 100) (by decide +kernel)) (by decide +kernel), by decide +kernel, by decide +kernel, by decide +kernel⟩
theorem MI_X5_letter : Cond.instanceMethod yX5_letter ∈ g_w ∧ Cond.selects yX5_letter.cls yX5_letter yX5_letter ∈ g_w := ⟨g_w_mem (List.mem_of_getElem? (i := 735) (by decide +kernel)) (by decide +kernel), g_w_mem (List.mem_of_getElem? (i := 736) (by decide +kernel)) (by decide +kernel)⟩
theorem MY_X6_put : g_MY yX6_put cX6_put 2 none 1 := ⟨g_w_mem (List.mem_of_getElem? (i := 729) (by decide +kernel)) (by decide +kernel), g_w_mem (List.mem_of_getElem? (i := 96) (by decide +kernel)) (by decide +kernel), by decide +kernel, by decide +kernel, by decide +kernel⟩
theorem MI_X6_put : Cond.instanceMethod yX6_put ∈ g_w ∧ Cond.selects yX6_put.cls yX6_put yX6_put ∈ g_w := ⟨g_w_mem (List.mem_of_getElem? (i := 727) (by decide +kernel)) (by decide +kernel), g_w_mem (List.mem_of_getElem? (i := 728) (by decide +kernel)) (by decide +kernel)⟩
theorem MY_X6_putNumber : g_MY yX6_putNumber cX6_putNumber 2 none 1 := ⟨g_w_mem (List.mem_of_getElem? (i := 742) (by decide +kernel)) (by decide +kernel), g_w_mem (List.mem_of_getElem? (i := 96) (by decide +kernel)) (by decide +kernel), by decide +kernel, by decide +kernel, by decide +kernel⟩
theorem MI_X6_putNumber : Cond.instanceMethod yX6_putNumber ∈ g_w ∧ Cond.selects yX6_putNumber.cls yX6_putNumber yX6_putNumber ∈ g_w := ⟨g_w_mem (List.mem_of_getElem? (i := 740) (by decide +kernel)) (by decide +kernel), g_w_mem (List.mem_of_getElem? (i := 741) (by decide +kernel)) (by decide +kernel)⟩
theorem MY_X7_command : g_MY yX7_command cX7_command 4 (some .boolean) 2 := ⟨g_w_mem (List.mem_of_getElem? (i := 1300) (by decide +kernel)) (by decide +kernel), g_w_mem (List.mem_of_getElem? (i := 94) (by decide +kernel)) (by decide +kernel), by decide +kernel, by decide +kernel, by decide +kernel⟩
theorem MI_X7_command : Cond.instanceMethod yX7_command ∈ g_w ∧ Cond.selects yX7_command.cls yX7_command yX7_command ∈ g_w := ⟨g_w_mem (List.mem_of_getElem? (i := 1299) (by decide +kernel)) (by decide +kernel), g_w_mem (List.mem_of_getElem? (i := 22) (by decide +kernel)) (by decide +kernel)⟩
theorem MY_X7_commandKind : g_MY yX7_commandKind cX7_commandKind 2 (some .int) 0 := ⟨g_w_mem (List.mem_of_getElem? (i := 1304) (by decide +kernel)) (by decide +kernel), g_w_mem (List.mem_of_getElem? (i := 94) (by decide +kernel)) (by decide +kernel), by decide +kernel, by decide +kernel, by decide +kernel⟩
theorem MI_X7_commandKind : Cond.instanceMethod yX7_commandKind ∈ g_w ∧ Cond.selects yX7_commandKind.cls yX7_commandKind yX7_commandKind ∈ g_w := ⟨g_w_mem (List.mem_of_getElem? (i := 1303) (by decide +kernel)) (by decide +kernel), g_w_mem (List.mem_of_getElem? (i := 23) (by decide +kernel)) (by decide +kernel)⟩
theorem MY_X7_fail : g_MY yX7_fail cX7_fail 2 (some .boolean) 1 := ⟨g_w_mem (List.mem_of_getElem? (i := 472) (by decide +kernel)) (by decide +kernel), g_w_mem (List.mem_of_getElem? (i := 94) (by decide +kernel)) (by decide +kernel), by decide +kernel, by decide +kernel, by decide +kernel⟩
theorem MI_X7_fail : Cond.instanceMethod yX7_fail ∈ g_w ∧ Cond.selects yX7_fail.cls yX7_fail yX7_fail ∈ g_w := ⟨g_w_mem (List.mem_of_getElem? (i := 471) (by decide +kernel)) (by decide +kernel), g_w_mem (List.mem_of_getElem? (i := 4) (by decide +kernel)) (by decide +kernel)⟩
theorem MY_X7_herd : g_MY yX7_herd cX7_herd 4 (some .boolean) 1 := ⟨g_w_mem (List.mem_of_getElem? (i := 517) (by decide +kernel)) (by decide +kernel), g_w_mem (List.mem_of_getElem? (i := 94) (by decide +kernel)) (by decide +kernel), by decide +kernel, by decide +kernel, by decide +kernel⟩
theorem MI_X7_herd : Cond.instanceMethod yX7_herd ∈ g_w ∧ Cond.selects yX7_herd.cls yX7_herd yX7_herd ∈ g_w := ⟨g_w_mem (List.mem_of_getElem? (i := 516) (by decide +kernel)) (by decide +kernel), g_w_mem (List.mem_of_getElem? (i := 12) (by decide +kernel)) (by decide +kernel)⟩
theorem MY_X7_herds : g_MY yX7_herds cX7_herds 3 (some .boolean) 1 := ⟨g_w_mem (List.mem_of_getElem? (i := 513) (by decide +kernel)) (by decide +kernel), g_w_mem (List.mem_of_getElem? (i := 94) (by decide +kernel)) (by decide +kernel), by decide +kernel, by decide +kernel, by decide +kernel⟩
theorem MI_X7_herds : Cond.instanceMethod yX7_herds ∈ g_w ∧ Cond.selects yX7_herds.cls yX7_herds yX7_herds ∈ g_w := ⟨g_w_mem (List.mem_of_getElem? (i := 512) (by decide +kernel)) (by decide +kernel), g_w_mem (List.mem_of_getElem? (i := 11) (by decide +kernel)) (by decide +kernel)⟩
theorem MY_X7_keyword : g_MY yX7_keyword cX7_keyword 2 (some .boolean) 1 := ⟨g_w_mem (List.mem_of_getElem? (i := 464) (by decide +kernel)) (by decide +kernel), g_w_mem (List.mem_of_getElem? (i := 94) (by decide +kernel)) (by decide +kernel), by decide +kernel, by decide +kernel, by decide +kernel⟩
theorem MI_X7_keyword : Cond.instanceMethod yX7_keyword ∈ g_w ∧ Cond.selects yX7_keyword.cls yX7_keyword yX7_keyword ∈ g_w := ⟨g_w_mem (List.mem_of_getElem? (i := 463) (by decide +kernel)) (by decide +kernel), g_w_mem (List.mem_of_getElem? (i := 3) (by decide +kernel)) (by decide +kernel)⟩
theorem MY_X7_name : g_MY yX7_name cX7_name 5 (some .boolean) 3 := ⟨g_w_mem (List.mem_of_getElem? (i := 1322) (by decide +kernel)) (by decide +kernel), g_w_mem (List.mem_of_getElem? (i := 94) (by decide +kernel)) (by decide +kernel), by decide +kernel, by decide +kernel, by decide +kernel⟩
theorem MI_X7_name : Cond.instanceMethod yX7_name ∈ g_w ∧ Cond.selects yX7_name.cls yX7_name yX7_name ∈ g_w := ⟨g_w_mem (List.mem_of_getElem? (i := 1321) (by decide +kernel)) (by decide +kernel), g_w_mem (List.mem_of_getElem? (i := 24) (by decide +kernel)) (by decide +kernel)⟩
theorem MY_X7_newName : g_MY yX7_newName cX7_newName 3 (some .boolean) 1 := ⟨g_w_mem (List.mem_of_getElem? (i := 490) (by decide +kernel)) (by decide +kernel), g_w_mem (List.mem_of_getElem? (i := 94) (by decide +kernel)) (by decide +kernel), by decide +kernel, by decide +kernel, by decide +kernel⟩
theorem MI_X7_newName : Cond.instanceMethod yX7_newName ∈ g_w ∧ Cond.selects yX7_newName.cls yX7_newName yX7_newName ∈ g_w := ⟨g_w_mem (List.mem_of_getElem? (i := 489) (by decide +kernel)) (by decide +kernel), g_w_mem (List.mem_of_getElem? (i := 8) (by decide +kernel)) (by decide +kernel)⟩
theorem MY_X7_number : g_MY yX7_number cX7_number 3 (some .boolean) 2 := ⟨g_w_mem (List.mem_of_getElem? (i := 1330) (by decide +kernel)) (by decide +kernel), g_w_mem (List.mem_of_getElem? (i := 94) (by decide +kernel)) (by decide +kernel), by decide +kernel, by decide +kernel, by decide +kernel⟩
theorem MI_X7_number : Cond.instanceMethod yX7_number ∈ g_w ∧ Cond.selects yX7_number.cls yX7_number yX7_number ∈ g_w := ⟨g_w_mem (List.mem_of_getElem? (i := 1329) (by decide +kernel)) (by decide +kernel), g_w_mem (List.mem_of_getElem? (i := 25) (by decide +kernel)) (by decide +kernel)⟩
theorem MY_X7_numberUpTo : g_MY yX7_numberUpTo cX7_numberUpTo 2 (some .boolean) 1 := ⟨g_w_mem (List.mem_of_getElem? (i := 509) (by decide +kernel)) (by decide +kernel), g_w_mem (List.mem_of_getElem? (i := 94) (by decide +kernel)) (by decide +kernel), by decide +kernel, by decide +kernel, by decide +kernel⟩
theorem MI_X7_numberUpTo : Cond.instanceMethod yX7_numberUpTo ∈ g_w ∧ Cond.selects yX7_numberUpTo.cls yX7_numberUpTo yX7_numberUpTo ∈ g_w := ⟨g_w_mem (List.mem_of_getElem? (i := 508) (by decide +kernel)) (by decide +kernel), g_w_mem (List.mem_of_getElem? (i := 10) (by decide +kernel)) (by decide +kernel)⟩
theorem MY_X7_pasture : g_MY yX7_pasture cX7_pasture 3 (some .boolean) 1 := ⟨g_w_mem (List.mem_of_getElem? (i := 485) (by decide +kernel)) (by decide +kernel), g_w_mem (List.mem_of_getElem? (i := 94) (by decide +kernel)) (by decide +kernel), by decide +kernel, by decide +kernel, by decide +kernel⟩
theorem MI_X7_pasture : Cond.instanceMethod yX7_pasture ∈ g_w ∧ Cond.selects yX7_pasture.cls yX7_pasture yX7_pasture ∈ g_w := ⟨g_w_mem (List.mem_of_getElem? (i := 484) (by decide +kernel)) (by decide +kernel), g_w_mem (List.mem_of_getElem? (i := 7) (by decide +kernel)) (by decide +kernel)⟩
theorem MY_X7_pastures : g_MY yX7_pastures cX7_pastures 3 (some .boolean) 1 := ⟨g_w_mem (List.mem_of_getElem? (i := 481) (by decide +kernel)) (by decide +kernel), g_w_mem (List.mem_of_getElem? (i := 94) (by decide +kernel)) (by decide +kernel), by decide +kernel, by decide +kernel, by decide +kernel⟩
theorem MI_X7_pastures : Cond.instanceMethod yX7_pastures ∈ g_w ∧ Cond.selects yX7_pastures.cls yX7_pastures yX7_pastures ∈ g_w := ⟨g_w_mem (List.mem_of_getElem? (i := 480) (by decide +kernel)) (by decide +kernel), g_w_mem (List.mem_of_getElem? (i := 6) (by decide +kernel)) (by decide +kernel)⟩
theorem MY_X7_readScript : g_MY yX7_readScript cX7_readScript 4 (some .boolean) 2 := ⟨g_w_mem (List.mem_of_getElem? (i := 1296) (by decide +kernel)) (by decide +kernel), g_w_mem (List.mem_of_getElem? (i := 94) (by decide +kernel)) (by decide +kernel), by decide +kernel, by decide +kernel, by decide +kernel⟩
theorem MI_X7_readScript : Cond.instanceMethod yX7_readScript ∈ g_w ∧ Cond.selects yX7_readScript.cls yX7_readScript yX7_readScript ∈ g_w := ⟨g_w_mem (List.mem_of_getElem? (i := 1294) (by decide +kernel)) (by decide +kernel), g_w_mem (List.mem_of_getElem? (i := 1295) (by decide +kernel)) (by decide +kernel)⟩
theorem MY_X7_readSetup : g_MY yX7_readSetup cX7_readSetup 2 (some .boolean) 1 := ⟨g_w_mem (List.mem_of_getElem? (i := 423) (by decide +kernel)) (by decide +kernel), g_w_mem (List.mem_of_getElem? (i := 94) (by decide +kernel)) (by decide +kernel), by decide +kernel, by decide +kernel, by decide +kernel⟩
theorem MI_X7_readSetup : Cond.instanceMethod yX7_readSetup ∈ g_w ∧ Cond.selects yX7_readSetup.cls yX7_readSetup yX7_readSetup ∈ g_w := ⟨g_w_mem (List.mem_of_getElem? (i := 421) (by decide +kernel)) (by decide +kernel), g_w_mem (List.mem_of_getElem? (i := 422) (by decide +kernel)) (by decide +kernel)⟩
theorem MY_X7_semicolon : g_MY yX7_semicolon cX7_semicolon 1 (some .boolean) 0 := ⟨g_w_mem (List.mem_of_getElem? (i := 477) (by decide +kernel)) (by decide +kernel), g_w_mem (List.mem_of_getElem? (i := 94) (by decide +kernel)) (by decide +kernel), by decide +kernel, by decide +kernel, by decide +kernel⟩
theorem MI_X7_semicolon : Cond.instanceMethod yX7_semicolon ∈ g_w ∧ Cond.selects yX7_semicolon.cls yX7_semicolon yX7_semicolon ∈ g_w := ⟨g_w_mem (List.mem_of_getElem? (i := 476) (by decide +kernel)) (by decide +kernel), g_w_mem (List.mem_of_getElem? (i := 5) (by decide +kernel)) (by decide +kernel)⟩
theorem MY_X7_start : g_MY yX7_start cX7_start 1 none 0 := ⟨g_w_mem (List.mem_of_getElem? (i := 427) (by decide +kernel)) (by decide +kernel), g_w_mem (List.mem_of_getElem? (i := 94) (by decide +kernel)) (by decide +kernel), by decide +kernel, by decide +kernel, by decide +kernel⟩
theorem MI_X7_start : Cond.instanceMethod yX7_start ∈ g_w ∧ Cond.selects yX7_start.cls yX7_start yX7_start ∈ g_w := ⟨g_w_mem (List.mem_of_getElem? (i := 426) (by decide +kernel)) (by decide +kernel), g_w_mem (List.mem_of_getElem? (i := 1) (by decide +kernel)) (by decide +kernel)⟩
theorem MY_X8_add : g_MY yX8_add cX8_add 2 none 1 := ⟨g_w_mem (List.mem_of_getElem? (i := 1318) (by decide +kernel)) (by decide +kernel), g_w_mem (List.mem_of_getElem? (i := 97) (by decide +kernel)) (by decide +kernel), by decide +kernel, by decide +kernel, by decide +kernel⟩
theorem MI_X8_add : Cond.instanceMethod yX8_add ∈ g_w ∧ Cond.selects yX8_add.cls yX8_add yX8_add ∈ g_w := ⟨g_w_mem (List.mem_of_getElem? (i := 1316) (by decide +kernel)) (by decide +kernel), g_w_mem (List.mem_of_getElem? (i := 1317) (by decide +kernel)) (by decide +kernel)⟩
theorem MY_X8_argument : g_MY yX8_argument cX8_argument 3 (some .int) 2 := ⟨g_w_mem (List.mem_of_getElem? (i := 1343) (by decide +kernel)) (by decide +kernel), g_w_mem (List.mem_of_getElem? (i := 97) (by decide +kernel)) (by decide +kernel), by decide +kernel, by decide +kernel, by decide +kernel⟩
theorem MI_X8_argument : Cond.instanceMethod yX8_argument ∈ g_w ∧ Cond.selects yX8_argument.cls yX8_argument yX8_argument ∈ g_w := ⟨g_w_mem (List.mem_of_getElem? (i := 1341) (by decide +kernel)) (by decide +kernel), g_w_mem (List.mem_of_getElem? (i := 1342) (by decide +kernel)) (by decide +kernel)⟩
theorem MY_X8_kind : g_MY yX8_kind cX8_kind 2 (some .int) 1 := ⟨g_w_mem (List.mem_of_getElem? (i := 1339) (by decide +kernel)) (by decide +kernel), g_w_mem (List.mem_of_getElem? (i := 97) (by decide +kernel)) (by decide +kernel), by decide +kernel, by decide +kernel, by decide +kernel⟩
theorem MI_X8_kind : Cond.instanceMethod yX8_kind ∈ g_w ∧ Cond.selects yX8_kind.cls yX8_kind yX8_kind ∈ g_w := ⟨g_w_mem (List.mem_of_getElem? (i := 1337) (by decide +kernel)) (by decide +kernel), g_w_mem (List.mem_of_getElem? (i := 1338) (by decide +kernel)) (by decide +kernel)⟩
theorem MY_X8_setArgument : g_MY yX8_setArgument cX8_setArgument 3 none 2 := ⟨g_w_mem (List.mem_of_getElem? (i := 1326) (by decide +kernel)) (by decide +kernel), g_w_mem (List.mem_of_getElem? (i := 97) (by decide +kernel)) (by decide +kernel), by decide +kernel, by decide +kernel, by decide +kernel⟩
theorem MI_X8_setArgument : Cond.instanceMethod yX8_setArgument ∈ g_w ∧ Cond.selects yX8_setArgument.cls yX8_setArgument yX8_setArgument ∈ g_w := ⟨g_w_mem (List.mem_of_getElem? (i := 1324) (by decide +kernel)) (by decide +kernel), g_w_mem (List.mem_of_getElem? (i := 1325) (by decide +kernel)) (by decide +kernel)⟩
theorem MY_X8_word : g_MY yX8_word cX8_word 1 (some (.object "java/lang/String")) 1 := ⟨g_w_mem (List.mem_of_getElem? (i := 1307) (by decide +kernel)) (by decide +kernel), g_w_mem (List.mem_of_getElem? (i := 97) (by decide +kernel)) (by decide +kernel), by decide +kernel, by decide +kernel, by decide +kernel⟩
theorem MS_X8_word : Cond.static yX8_word ∈ g_w := g_w_mem (List.mem_of_getElem? (i := 1306) (by decide +kernel)) (by decide +kernel)
theorem MY_X9_cell : g_MY yX9_cell cX9_cell 2 (some .int) 2 := ⟨g_w_mem (List.mem_of_getElem? (i := 455) (by decide +kernel)) (by decide +kernel), g_w_mem (List.mem_of_getElem? (i := 99) (by decide +kernel)) (by decide +kernel), by decide +kernel, by decide +kernel, by decide +kernel⟩
theorem MS_X9_cell : Cond.static yX9_cell ∈ g_w := g_w_mem (List.mem_of_getElem? (i := 454) (by decide +kernel)) (by decide +kernel)
theorem MY_X9_clear : g_MY yX9_clear cX9_clear 3 none 0 := ⟨g_w_mem (List.mem_of_getElem? (i := 452) (by decide +kernel)) (by decide +kernel), g_w_mem (List.mem_of_getElem? (i := 99) (by decide +kernel)) (by decide +kernel), by decide +kernel, by decide +kernel, by decide +kernel⟩
theorem MI_X9_clear : Cond.instanceMethod yX9_clear ∈ g_w ∧ Cond.selects yX9_clear.cls yX9_clear yX9_clear ∈ g_w := ⟨g_w_mem (List.mem_of_getElem? (i := 450) (by decide +kernel)) (by decide +kernel), g_w_mem (List.mem_of_getElem? (i := 451) (by decide +kernel)) (by decide +kernel)⟩
theorem MY_X9_copyFrom : g_MY yX9_copyFrom cX9_copyFrom 2 none 1 := ⟨g_w_mem (List.mem_of_getElem? (i := 606) (by decide +kernel)) (by decide +kernel), g_w_mem (List.mem_of_getElem? (i := 99) (by decide +kernel)) (by decide +kernel), by decide +kernel, by decide +kernel, by decide +kernel⟩
theorem MI_X9_copyFrom : Cond.instanceMethod yX9_copyFrom ∈ g_w ∧ Cond.selects yX9_copyFrom.cls yX9_copyFrom yX9_copyFrom ∈ g_w := ⟨g_w_mem (List.mem_of_getElem? (i := 604) (by decide +kernel)) (by decide +kernel), g_w_mem (List.mem_of_getElem? (i := 605) (by decide +kernel)) (by decide +kernel)⟩
theorem MY_X9_excessiveAllocations : g_MY yX9_excessiveAllocations cX9_excessiveAllocations 4 (some .int) 0 := ⟨g_w_mem (List.mem_of_getElem? (i := 705) (by decide +kernel)) (by decide +kernel), g_w_mem (List.mem_of_getElem? (i := 99) (by decide +kernel)) (by decide +kernel), by decide +kernel, by decide +kernel, by decide +kernel⟩
theorem MI_X9_excessiveAllocations : Cond.instanceMethod yX9_excessiveAllocations ∈ g_w ∧ Cond.selects yX9_excessiveAllocations.cls yX9_excessiveAllocations yX9_excessiveAllocations ∈ g_w := ⟨g_w_mem (List.mem_of_getElem? (i := 703) (by decide +kernel)) (by decide +kernel), g_w_mem (List.mem_of_getElem? (i := 704) (by decide +kernel)) (by decide +kernel)⟩
theorem MY_X9_freeUnits : g_MY yX9_freeUnits cX9_freeUnits 2 (some .int) 1 := ⟨g_w_mem (List.mem_of_getElem? (i := 904) (by decide +kernel)) (by decide +kernel), g_w_mem (List.mem_of_getElem? (i := 99) (by decide +kernel)) (by decide +kernel), by decide +kernel, by decide +kernel, by decide +kernel⟩
theorem MI_X9_freeUnits : Cond.instanceMethod yX9_freeUnits ∈ g_w ∧ Cond.selects yX9_freeUnits.cls yX9_freeUnits yX9_freeUnits ∈ g_w := ⟨g_w_mem (List.mem_of_getElem? (i := 902) (by decide +kernel)) (by decide +kernel), g_w_mem (List.mem_of_getElem? (i := 903) (by decide +kernel)) (by decide +kernel)⟩
theorem MY_X9_heldUnits : g_MY yX9_heldUnits cX9_heldUnits 4 (some .int) 1 := ⟨g_w_mem (List.mem_of_getElem? (i := 908) (by decide +kernel)) (by decide +kernel), g_w_mem (List.mem_of_getElem? (i := 99) (by decide +kernel)) (by decide +kernel), by decide +kernel, by decide +kernel, by decide +kernel⟩
theorem MI_X9_heldUnits : Cond.instanceMethod yX9_heldUnits ∈ g_w ∧ Cond.selects yX9_heldUnits.cls yX9_heldUnits yX9_heldUnits ∈ g_w := ⟨g_w_mem (List.mem_of_getElem? (i := 906) (by decide +kernel)) (by decide +kernel), g_w_mem (List.mem_of_getElem? (i := 907) (by decide +kernel)) (by decide +kernel)⟩
theorem MY_X9_isHeldUpBy : g_MY yX9_isHeldUpBy cX9_isHeldUpBy 5 (some .boolean) 2 := ⟨g_w_mem (List.mem_of_getElem? (i := 1070) (by decide +kernel)) (by decide +kernel), g_w_mem (List.mem_of_getElem? (i := 99) (by decide +kernel)) (by decide +kernel), by decide +kernel, by decide +kernel, by decide +kernel⟩
theorem MI_X9_isHeldUpBy : Cond.instanceMethod yX9_isHeldUpBy ∈ g_w ∧ Cond.selects yX9_isHeldUpBy.cls yX9_isHeldUpBy yX9_isHeldUpBy ∈ g_w := ⟨g_w_mem (List.mem_of_getElem? (i := 1068) (by decide +kernel)) (by decide +kernel), g_w_mem (List.mem_of_getElem? (i := 1069) (by decide +kernel)) (by decide +kernel)⟩
theorem MY_X9_joinQueue : g_MY yX9_joinQueue cX9_joinQueue 4 none 3 := ⟨g_w_mem (List.mem_of_getElem? (i := 1186) (by decide +kernel)) (by decide +kernel), g_w_mem (List.mem_of_getElem? (i := 99) (by decide +kernel)) (by decide +kernel), by decide +kernel, by decide +kernel, by decide +kernel⟩
theorem MI_X9_joinQueue : Cond.instanceMethod yX9_joinQueue ∈ g_w ∧ Cond.selects yX9_joinQueue.cls yX9_joinQueue yX9_joinQueue ∈ g_w := ⟨g_w_mem (List.mem_of_getElem? (i := 1184) (by decide +kernel)) (by decide +kernel), g_w_mem (List.mem_of_getElem? (i := 1185) (by decide +kernel)) (by decide +kernel)⟩
theorem MY_X9_leaveQueue : g_MY yX9_leaveQueue cX9_leaveQueue 4 none 1 := ⟨g_w_mem (List.mem_of_getElem? (i := 628) (by decide +kernel)) (by decide +kernel), g_w_mem (List.mem_of_getElem? (i := 99) (by decide +kernel)) (by decide +kernel), by decide +kernel, by decide +kernel, by decide +kernel⟩
theorem MI_X9_leaveQueue : Cond.instanceMethod yX9_leaveQueue ∈ g_w ∧ Cond.selects yX9_leaveQueue.cls yX9_leaveQueue yX9_leaveQueue ∈ g_w := ⟨g_w_mem (List.mem_of_getElem? (i := 626) (by decide +kernel)) (by decide +kernel), g_w_mem (List.mem_of_getElem? (i := 627) (by decide +kernel)) (by decide +kernel)⟩
theorem MY_X9_openClaim : g_MY yX9_openClaim cX9_openClaim 3 (some .int) 2 := ⟨g_w_mem (List.mem_of_getElem? (i := 709) (by decide +kernel)) (by decide +kernel), g_w_mem (List.mem_of_getElem? (i := 99) (by decide +kernel)) (by decide +kernel), by decide +kernel, by decide +kernel, by decide +kernel⟩
theorem MI_X9_openClaim : Cond.instanceMethod yX9_openClaim ∈ g_w ∧ Cond.selects yX9_openClaim.cls yX9_openClaim yX9_openClaim ∈ g_w := ⟨g_w_mem (List.mem_of_getElem? (i := 707) (by decide +kernel)) (by decide +kernel), g_w_mem (List.mem_of_getElem? (i := 708) (by decide +kernel)) (by decide +kernel)⟩
theorem MY_X9_waits : g_MY yX9_waits cX9_waits 2 (some .boolean) 1 := ⟨g_w_mem (List.mem_of_getElem? (i := 624) (by decide +kernel)) (by decide +kernel), g_w_mem (List.mem_of_getElem? (i := 99) (by decide +kernel)) (by decide +kernel), by decide +kernel, by decide +kernel, by decide +kernel⟩
theorem MI_X9_waits : Cond.instanceMethod yX9_waits ∈ g_w ∧ Cond.selects yX9_waits.cls yX9_waits yX9_waits ∈ g_w := ⟨g_w_mem (List.mem_of_getElem? (i := 622) (by decide +kernel)) (by decide +kernel), g_w_mem (List.mem_of_getElem? (i := 623) (by decide +kernel)) (by decide +kernel)⟩
theorem MY_X9_wanted : g_MY yX9_wanted cX9_wanted 3 (some .int) 2 := ⟨g_w_mem (List.mem_of_getElem? (i := 1252) (by decide +kernel)) (by decide +kernel), g_w_mem (List.mem_of_getElem? (i := 99) (by decide +kernel)) (by decide +kernel), by decide +kernel, by decide +kernel, by decide +kernel⟩
theorem MI_X9_wanted : Cond.instanceMethod yX9_wanted ∈ g_w ∧ Cond.selects yX9_wanted.cls yX9_wanted yX9_wanted ∈ g_w := ⟨g_w_mem (List.mem_of_getElem? (i := 1250) (by decide +kernel)) (by decide +kernel), g_w_mem (List.mem_of_getElem? (i := 1251) (by decide +kernel)) (by decide +kernel)⟩
theorem ML_RX10_75 : Cond.methodLink RX10 75 yX7_readSetup ∈ g_w := g_w_mem (List.mem_of_getElem? (i := 420) (by decide +kernel)) (by decide +kernel)
theorem ML_RX10_89 : Cond.methodLink RX10 89 yX4_putFourBytes ∈ g_w := g_w_mem (List.mem_of_getElem? (i := 821) (by decide +kernel)) (by decide +kernel)
theorem ML_RX10_100 : Cond.methodLink RX10 100 yX9_copyFrom ∈ g_w := g_w_mem (List.mem_of_getElem? (i := 857) (by decide +kernel)) (by decide +kernel)
theorem ML_RX10_123 : Cond.methodLink RX10 123 yX2_ofPasture ∈ g_w := g_w_mem (List.mem_of_getElem? (i := 866) (by decide +kernel)) (by decide +kernel)
theorem ML_RX10_129 : Cond.methodLink RX10 129 yX10_refuse ∈ g_w := g_w_mem (List.mem_of_getElem? (i := 873) (by decide +kernel)) (by decide +kernel)
theorem ML_RX10_136 : Cond.methodLink RX10 136 yX9_freeUnits ∈ g_w := g_w_mem (List.mem_of_getElem? (i := 901) (by decide +kernel)) (by decide +kernel)
theorem ML_RX10_140 : Cond.methodLink RX10 140 yX2_ofHerdOrPasture ∈ g_w := g_w_mem (List.mem_of_getElem? (i := 916) (by decide +kernel)) (by decide +kernel)
theorem ML_RX10_147 : Cond.methodLink RX10 147 yX9_cell ∈ g_w := g_w_mem (List.mem_of_getElem? (i := 738) (by decide +kernel)) (by decide +kernel)
theorem ML_RX10_154 : Cond.methodLink RX10 154 yX9_openClaim ∈ g_w := g_w_mem (List.mem_of_getElem? (i := 933) (by decide +kernel)) (by decide +kernel)
theorem ML_RX10_157 : Cond.methodLink RX10 157 yX2_ofLetter ∈ g_w := g_w_mem (List.mem_of_getElem? (i := 941) (by decide +kernel)) (by decide +kernel)
theorem ML_RX10_161 : Cond.methodLink RX10 161 yX5_letter ∈ g_w := g_w_mem (List.mem_of_getElem? (i := 734) (by decide +kernel)) (by decide +kernel)
theorem ML_RX10_168 : Cond.methodLink RX10 168 yX5_find ∈ g_w := g_w_mem (List.mem_of_getElem? (i := 959) (by decide +kernel)) (by decide +kernel)
theorem ML_RX10_177 : Cond.methodLink RX10 177 yX0_allCanFinish ∈ g_w := g_w_mem (List.mem_of_getElem? (i := 572) (by decide +kernel)) (by decide +kernel)
theorem ML_RX10_183 : Cond.methodLink RX10 183 yX2_ofHerd ∈ g_w := g_w_mem (List.mem_of_getElem? (i := 983) (by decide +kernel)) (by decide +kernel)
theorem ML_RX10_186 : Cond.methodLink RX10 186 yX0_finishesNow ∈ g_w := g_w_mem (List.mem_of_getElem? (i := 986) (by decide +kernel)) (by decide +kernel)
theorem ML_RX10_190 : Cond.methodLink RX10 190 yX2_ofUnits ∈ g_w := g_w_mem (List.mem_of_getElem? (i := 997) (by decide +kernel)) (by decide +kernel)
theorem ML_RX10_194 : Cond.methodLink RX10 194 yX0_reasonAgainst ∈ g_w := g_w_mem (List.mem_of_getElem? (i := 1000) (by decide +kernel)) (by decide +kernel)
theorem ML_RX10_197 : Cond.methodLink RX10 197 yX0_mostGrantable ∈ g_w := g_w_mem (List.mem_of_getElem? (i := 1013) (by decide +kernel)) (by decide +kernel)
theorem ML_RX10_200 : Cond.methodLink RX10 200 yX0_leastSafeCapacity ∈ g_w := g_w_mem (List.mem_of_getElem? (i := 1031) (by decide +kernel)) (by decide +kernel)
theorem ML_RX10_203 : Cond.methodLink RX10 203 yX0_bestFinisher ∈ g_w := g_w_mem (List.mem_of_getElem? (i := 599) (by decide +kernel)) (by decide +kernel)
theorem ML_RX10_213 : Cond.methodLink RX10 213 yX9_waits ∈ g_w := g_w_mem (List.mem_of_getElem? (i := 744) (by decide +kernel)) (by decide +kernel)
theorem ML_RX10_223 : Cond.methodLink RX10 223 yX2_ofTwoHerds ∈ g_w := g_w_mem (List.mem_of_getElem? (i := 1064) (by decide +kernel)) (by decide +kernel)
theorem ML_RX10_226 : Cond.methodLink RX10 226 yX9_isHeldUpBy ∈ g_w := g_w_mem (List.mem_of_getElem? (i := 1067) (by decide +kernel)) (by decide +kernel)
theorem ML_RX10_230 : Cond.methodLink RX10 230 yX0_stuckHerds ∈ g_w := g_w_mem (List.mem_of_getElem? (i := 651) (by decide +kernel)) (by decide +kernel)
theorem ML_RX10_234 : Cond.methodLink RX10 234 yX10_isIn ∈ g_w := g_w_mem (List.mem_of_getElem? (i := 1080) (by decide +kernel)) (by decide +kernel)
theorem ML_RX10_237 : Cond.methodLink RX10 237 yJ6_bitCount_0f7a4 ∈ g_w := g_w_mem (List.mem_of_getElem? (i := 659) (by decide +kernel)) (by decide +kernel)
theorem ML_RX10_246 : Cond.methodLink RX10 246 yX1_owed ∈ g_w := g_w_mem (List.mem_of_getElem? (i := 1088) (by decide +kernel)) (by decide +kernel)
theorem ML_RX10_251 : Cond.methodLink RX10 251 yX1_sumBetween ∈ g_w := g_w_mem (List.mem_of_getElem? (i := 689) (by decide +kernel)) (by decide +kernel)
theorem ML_RX10_254 : Cond.methodLink RX10 254 yX1_cycleClosedBy ∈ g_w := g_w_mem (List.mem_of_getElem? (i := 1110) (by decide +kernel)) (by decide +kernel)
theorem ML_RX10_257 : Cond.methodLink RX10 257 yX1_longestChain ∈ g_w := g_w_mem (List.mem_of_getElem? (i := 1125) (by decide +kernel)) (by decide +kernel)
theorem ML_RX10_260 : Cond.methodLink RX10 260 yX1_settledAt ∈ g_w := g_w_mem (List.mem_of_getElem? (i := 1136) (by decide +kernel)) (by decide +kernel)
theorem ML_RX10_263 : Cond.methodLink RX10 263 yX1_herdsReaching ∈ g_w := g_w_mem (List.mem_of_getElem? (i := 1151) (by decide +kernel)) (by decide +kernel)
theorem ML_RX10_285 : Cond.methodLink RX10 285 yX9_excessiveAllocations ∈ g_w := g_w_mem (List.mem_of_getElem? (i := 702) (by decide +kernel)) (by decide +kernel)
theorem ML_RX10_288 : Cond.methodLink RX10 288 yX1_herdsInCycles ∈ g_w := g_w_mem (List.mem_of_getElem? (i := 710) (by decide +kernel)) (by decide +kernel)
theorem ML_RX10_291 : Cond.methodLink RX10 291 yX2_ofRequest ∈ g_w := g_w_mem (List.mem_of_getElem? (i := 1167) (by decide +kernel)) (by decide +kernel)
theorem ML_RX10_294 : Cond.methodLink RX10 294 yX3_remember ∈ g_w := g_w_mem (List.mem_of_getElem? (i := 1173) (by decide +kernel)) (by decide +kernel)
theorem ML_RX10_297 : Cond.methodLink RX10 297 yX0_grantOrQueue ∈ g_w := g_w_mem (List.mem_of_getElem? (i := 1179) (by decide +kernel)) (by decide +kernel)
theorem ML_RX10_301 : Cond.methodLink RX10 301 yX2_ofRelease ∈ g_w := g_w_mem (List.mem_of_getElem? (i := 1194) (by decide +kernel)) (by decide +kernel)
theorem ML_RX10_304 : Cond.methodLink RX10 304 yX0_takeBack ∈ g_w := g_w_mem (List.mem_of_getElem? (i := 1198) (by decide +kernel)) (by decide +kernel)
theorem ML_RX10_307 : Cond.methodLink RX10 307 yX0_takeBackAll ∈ g_w := g_w_mem (List.mem_of_getElem? (i := 1209) (by decide +kernel)) (by decide +kernel)
theorem ML_RX10_310 : Cond.methodLink RX10 310 yX2_ofCancel ∈ g_w := g_w_mem (List.mem_of_getElem? (i := 1217) (by decide +kernel)) (by decide +kernel)
theorem ML_RX10_313 : Cond.methodLink RX10 313 yX0_withdrawRequest ∈ g_w := g_w_mem (List.mem_of_getElem? (i := 1220) (by decide +kernel)) (by decide +kernel)
theorem ML_RX10_316 : Cond.methodLink RX10 316 yX2_ofCapacity ∈ g_w := g_w_mem (List.mem_of_getElem? (i := 1231) (by decide +kernel)) (by decide +kernel)
theorem ML_RX10_319 : Cond.methodLink RX10 319 yX0_resize ∈ g_w := g_w_mem (List.mem_of_getElem? (i := 1235) (by decide +kernel)) (by decide +kernel)
theorem ML_RX10_322 : Cond.methodLink RX10 322 yX2_ofMaximum ∈ g_w := g_w_mem (List.mem_of_getElem? (i := 1246) (by decide +kernel)) (by decide +kernel)
theorem ML_RX10_325 : Cond.methodLink RX10 325 yX0_changeClaim ∈ g_w := g_w_mem (List.mem_of_getElem? (i := 1253) (by decide +kernel)) (by decide +kernel)
theorem ML_RX10_328 : Cond.methodLink RX10 328 yX2_ofLoan ∈ g_w := g_w_mem (List.mem_of_getElem? (i := 1264) (by decide +kernel)) (by decide +kernel)
theorem ML_RX10_331 : Cond.methodLink RX10 331 yX1_change ∈ g_w := g_w_mem (List.mem_of_getElem? (i := 1272) (by decide +kernel)) (by decide +kernel)
theorem ML_RX10_335 : Cond.methodLink RX10 335 yX2_ofRepayment ∈ g_w := g_w_mem (List.mem_of_getElem? (i := 1283) (by decide +kernel)) (by decide +kernel)
theorem ML_RX10_338 : Cond.methodLink RX10 338 yX7_readScript ∈ g_w := g_w_mem (List.mem_of_getElem? (i := 1293) (by decide +kernel)) (by decide +kernel)
theorem ML_RX10_345 : Cond.methodLink RX10 345 yX10_execute ∈ g_w := g_w_mem (List.mem_of_getElem? (i := 1332) (by decide +kernel)) (by decide +kernel)
theorem ML_RX10_350 : Cond.methodLink RX10 350 yX3_takeBack ∈ g_w := g_w_mem (List.mem_of_getElem? (i := 1362) (by decide +kernel)) (by decide +kernel)
theorem ML_RX10_352 : Cond.methodLink RX10 352 yX2_ofSlot ∈ g_w := g_w_mem (List.mem_of_getElem? (i := 1373) (by decide +kernel)) (by decide +kernel)
theorem ML_RX10_358 : Cond.methodLink RX10 358 yX6_put ∈ g_w := g_w_mem (List.mem_of_getElem? (i := 726) (by decide +kernel)) (by decide +kernel)
theorem ML_RX10_361 : Cond.methodLink RX10 361 yX10_writeHerd ∈ g_w := g_w_mem (List.mem_of_getElem? (i := 730) (by decide +kernel)) (by decide +kernel)
theorem ML_RX10_376 : Cond.methodLink RX10 376 yX8_kind ∈ g_w := g_w_mem (List.mem_of_getElem? (i := 1336) (by decide +kernel)) (by decide +kernel)
theorem ML_RX10_379 : Cond.methodLink RX10 379 yX8_argument ∈ g_w := g_w_mem (List.mem_of_getElem? (i := 1340) (by decide +kernel)) (by decide +kernel)
theorem ML_RX10_382 : Cond.methodLink RX10 382 yX2_ofCommand ∈ g_w := g_w_mem (List.mem_of_getElem? (i := 1344) (by decide +kernel)) (by decide +kernel)
theorem ML_RX10_389 : Cond.methodLink RX10 389 yX6_putNumber ∈ g_w := g_w_mem (List.mem_of_getElem? (i := 739) (by decide +kernel)) (by decide +kernel)
theorem ML_RX0_42 : Cond.methodLink RX0 42 yX0_startWithAvailable ∈ g_w := g_w_mem (List.mem_of_getElem? (i := 576) (by decide +kernel)) (by decide +kernel)
theorem ML_RX0_46 : Cond.methodLink RX0 46 yX0_finishesWithFree ∈ g_w := g_w_mem (List.mem_of_getElem? (i := 583) (by decide +kernel)) (by decide +kernel)
theorem ML_RX0_50 : (RX0, 50, yX10_isIn) ∈ g_nl := List.mem_of_getElem? (i := 0) rfl
theorem ML_RX0_54 : Cond.methodLink RX0 54 yX0_addAllocations ∈ g_w := g_w_mem (List.mem_of_getElem? (i := 587) (by decide +kernel)) (by decide +kernel)
theorem ML_RX0_58 : Cond.methodLink RX0 58 yX9_cell ∈ g_w := g_w_mem (List.mem_of_getElem? (i := 629) (by decide +kernel)) (by decide +kernel)
theorem ML_RX0_62 : Cond.methodLink RX0 62 yX0_allCanFinish ∈ g_w := g_w_mem (List.mem_of_getElem? (i := 638) (by decide +kernel)) (by decide +kernel)
theorem ML_RX0_66 : Cond.methodLink RX0 66 yX9_waits ∈ g_w := g_w_mem (List.mem_of_getElem? (i := 621) (by decide +kernel)) (by decide +kernel)
theorem ML_RX0_70 : Cond.methodLink RX0 70 yX9_openClaim ∈ g_w := g_w_mem (List.mem_of_getElem? (i := 1004) (by decide +kernel)) (by decide +kernel)
theorem ML_RX0_73 : Cond.methodLink RX0 73 yX9_freeUnits ∈ g_w := g_w_mem (List.mem_of_getElem? (i := 1005) (by decide +kernel)) (by decide +kernel)
theorem ML_RX0_77 : Cond.methodLink RX0 77 yX0_isGrantable ∈ g_w := g_w_mem (List.mem_of_getElem? (i := 634) (by decide +kernel)) (by decide +kernel)
theorem MLm_RX0_81 : g_Mm RX0 81 Lib.Math.min.name Lib.Math.min.code := ⟨g_w_mem (List.mem_of_getElem? (i := 1017) (by decide +kernel)) (by decide +kernel), g_w_mem (List.mem_of_getElem? (i := 1018) (by decide +kernel)) (by decide +kernel), g_w_mem (List.mem_of_getElem? (i := 117) (by decide +kernel)) (by decide +kernel), g_w_mem (List.mem_of_getElem? (i := 1019) (by decide +kernel)) (by decide +kernel)⟩
theorem ML_RX0_86 : Cond.methodLink RX0 86 yX0_reasonAgainst ∈ g_w := g_w_mem (List.mem_of_getElem? (i := 1020) (by decide +kernel)) (by decide +kernel)
theorem MLm_RX0_90 : g_Mm RX0 90 Lib.Math.max.name Lib.Math.max.code := ⟨g_w_mem (List.mem_of_getElem? (i := 1021) (by decide +kernel)) (by decide +kernel), g_w_mem (List.mem_of_getElem? (i := 1022) (by decide +kernel)) (by decide +kernel), g_w_mem (List.mem_of_getElem? (i := 117) (by decide +kernel)) (by decide +kernel), g_w_mem (List.mem_of_getElem? (i := 1023) (by decide +kernel)) (by decide +kernel)⟩
theorem ML_RX0_93 : Cond.methodLink RX0 93 yX9_heldUnits ∈ g_w := g_w_mem (List.mem_of_getElem? (i := 1035) (by decide +kernel)) (by decide +kernel)
theorem ML_RX0_96 : Cond.methodLink RX0 96 yX9_copyFrom ∈ g_w := g_w_mem (List.mem_of_getElem? (i := 603) (by decide +kernel)) (by decide +kernel)
theorem ML_RX0_99 : Cond.methodLink RX0 99 yX0_takeBackAll ∈ g_w := g_w_mem (List.mem_of_getElem? (i := 617) (by decide +kernel)) (by decide +kernel)
theorem ML_RX0_106 : Cond.methodLink RX0 106 yX9_joinQueue ∈ g_w := g_w_mem (List.mem_of_getElem? (i := 1183) (by decide +kernel)) (by decide +kernel)
theorem ML_RX0_113 : Cond.methodLink RX0 113 yX0_serveQueue ∈ g_w := g_w_mem (List.mem_of_getElem? (i := 630) (by decide +kernel)) (by decide +kernel)
theorem ML_RX0_117 : Cond.methodLink RX0 117 yX9_leaveQueue ∈ g_w := g_w_mem (List.mem_of_getElem? (i := 625) (by decide +kernel)) (by decide +kernel)
theorem ML_RX0_139 : Cond.methodLink RX0 139 yX0_goesOnWithFree ∈ g_w := g_w_mem (List.mem_of_getElem? (i := 655) (by decide +kernel)) (by decide +kernel)
theorem MLa_RX1_15 : Cond.methodLink RX1 15 arraycopyName ∈ g_w ∧ Cond.native arraycopyName ∈ g_w ∧ Cond.static arraycopyName ∈ g_w ∧ Cond.initialized "java/lang/System" ∈ g_w := ⟨g_w_mem (List.mem_of_getElem? (i := 616) (by decide +kernel)) (by decide +kernel), g_w_mem (List.mem_of_getElem? (i := 505) (by decide +kernel)) (by decide +kernel), g_w_mem (List.mem_of_getElem? (i := 504) (by decide +kernel)) (by decide +kernel), g_w_mem (List.mem_of_getElem? (i := 107) (by decide +kernel)) (by decide +kernel)⟩
theorem ML_RX1_21 : (RX1, 21, yX10_isIn) ∈ g_nl := List.mem_of_getElem? (i := 1) rfl
theorem ML_RX1_25 : Cond.methodLink RX1 25 yX1_owed ∈ g_w := g_w_mem (List.mem_of_getElem? (i := 694) (by decide +kernel)) (by decide +kernel)
theorem ML_RX1_29 : Cond.methodLink RX1 29 yX1_debtorsOf ∈ g_w := g_w_mem (List.mem_of_getElem? (i := 718) (by decide +kernel)) (by decide +kernel)
theorem ML_RX1_33 : Cond.methodLink RX1 33 yX1_herdsReaching ∈ g_w := g_w_mem (List.mem_of_getElem? (i := 714) (by decide +kernel)) (by decide +kernel)
theorem ML_RX1_36 : Cond.methodLink RX1 36 yX1_creditorsOf ∈ g_w := g_w_mem (List.mem_of_getElem? (i := 1114) (by decide +kernel)) (by decide +kernel)
theorem ML_RX1_39 : Cond.methodLink RX1 39 yX1_nextToSettle ∈ g_w := g_w_mem (List.mem_of_getElem? (i := 1140) (by decide +kernel)) (by decide +kernel)
theorem ML_RX2_15 : Cond.methodLink RX2 15 yX5_has ∈ g_w := g_w_mem (List.mem_of_getElem? (i := 869) (by decide +kernel)) (by decide +kernel)
theorem ML_RX2_28 : Cond.methodLink RX2 28 yX2_ofUnits ∈ g_w := g_w_mem (List.mem_of_getElem? (i := 1170) (by decide +kernel)) (by decide +kernel)
theorem ML_RX2_34 : Cond.methodLink RX2 34 yX9_waits ∈ g_w := g_w_mem (List.mem_of_getElem? (i := 1171) (by decide +kernel)) (by decide +kernel)
theorem ML_RX2_37 : Cond.methodLink RX2 37 yX9_openClaim ∈ g_w := g_w_mem (List.mem_of_getElem? (i := 1172) (by decide +kernel)) (by decide +kernel)
theorem ML_RX2_44 : Cond.methodLink RX2 44 yX9_cell ∈ g_w := g_w_mem (List.mem_of_getElem? (i := 1197) (by decide +kernel)) (by decide +kernel)
theorem ML_RX2_47 : Cond.methodLink RX2 47 yX9_heldUnits ∈ g_w := g_w_mem (List.mem_of_getElem? (i := 1234) (by decide +kernel)) (by decide +kernel)
theorem ML_RX2_51 : Cond.methodLink RX2 51 yX9_wanted ∈ g_w := g_w_mem (List.mem_of_getElem? (i := 1249) (by decide +kernel)) (by decide +kernel)
theorem ML_RX2_54 : Cond.methodLink RX2 54 yX2_ofCoins ∈ g_w := g_w_mem (List.mem_of_getElem? (i := 1267) (by decide +kernel)) (by decide +kernel)
theorem ML_RX2_61 : Cond.methodLink RX2 61 yX1_cycleClosedBy ∈ g_w := g_w_mem (List.mem_of_getElem? (i := 1270) (by decide +kernel)) (by decide +kernel)
theorem ML_RX2_66 : Cond.methodLink RX2 66 yX1_owed ∈ g_w := g_w_mem (List.mem_of_getElem? (i := 1271) (by decide +kernel)) (by decide +kernel)
theorem ML_RX2_69 : Cond.methodLink RX2 69 yX2_ofRequest ∈ g_w := g_w_mem (List.mem_of_getElem? (i := 1347) (by decide +kernel)) (by decide +kernel)
theorem ML_RX2_72 : Cond.methodLink RX2 72 yX2_ofRelease ∈ g_w := g_w_mem (List.mem_of_getElem? (i := 1348) (by decide +kernel)) (by decide +kernel)
theorem ML_RX2_75 : Cond.methodLink RX2 75 yX2_ofHerd ∈ g_w := g_w_mem (List.mem_of_getElem? (i := 1349) (by decide +kernel)) (by decide +kernel)
theorem ML_RX2_79 : Cond.methodLink RX2 79 yX2_ofCancel ∈ g_w := g_w_mem (List.mem_of_getElem? (i := 1350) (by decide +kernel)) (by decide +kernel)
theorem ML_RX2_82 : Cond.methodLink RX2 82 yX2_ofLoan ∈ g_w := g_w_mem (List.mem_of_getElem? (i := 1351) (by decide +kernel)) (by decide +kernel)
theorem ML_RX2_85 : Cond.methodLink RX2 85 yX2_ofRepayment ∈ g_w := g_w_mem (List.mem_of_getElem? (i := 1352) (by decide +kernel)) (by decide +kernel)
theorem ML_RX2_88 : Cond.methodLink RX2 88 yX2_ofCapacity ∈ g_w := g_w_mem (List.mem_of_getElem? (i := 1353) (by decide +kernel)) (by decide +kernel)
theorem ML_RX3_22 : Cond.methodLink RX3 22 yX9_copyFrom ∈ g_w := g_w_mem (List.mem_of_getElem? (i := 1177) (by decide +kernel)) (by decide +kernel)
theorem MLm_RX3_29 : g_Mm RX3 29 Lib.Math.min.name Lib.Math.min.code := ⟨g_w_mem (List.mem_of_getElem? (i := 1178) (by decide +kernel)) (by decide +kernel), g_w_mem (List.mem_of_getElem? (i := 1018) (by decide +kernel)) (by decide +kernel), g_w_mem (List.mem_of_getElem? (i := 117) (by decide +kernel)) (by decide +kernel), g_w_mem (List.mem_of_getElem? (i := 1019) (by decide +kernel)) (by decide +kernel)⟩
theorem ML_RX4_25 : Cond.methodLink RX4 25 yX4_put ∈ g_w := g_w_mem (List.mem_of_getElem? (i := 416) (by decide +kernel)) (by decide +kernel)
theorem ML_RX4_35 : Cond.methodLink RX4 35 yX4_readNext ∈ g_w := g_w_mem (List.mem_of_getElem? (i := 432) (by decide +kernel)) (by decide +kernel)
theorem ML_RX4_41 : Cond.methodLink RX4 41 yX4_isSeparator ∈ g_w := g_w_mem (List.mem_of_getElem? (i := 436) (by decide +kernel)) (by decide +kernel)
theorem ML_RX4_45 : Cond.methodLink RX4 45 yX4_isLetter ∈ g_w := g_w_mem (List.mem_of_getElem? (i := 439) (by decide +kernel)) (by decide +kernel)
theorem ML_RX4_54 : Cond.methodLink RX4 54 yX4_isDigit ∈ g_w := g_w_mem (List.mem_of_getElem? (i := 442) (by decide +kernel)) (by decide +kernel)
theorem ML_RX4_57 : Cond.methodLink RX4 57 yX4_readSign ∈ g_w := g_w_mem (List.mem_of_getElem? (i := 445) (by decide +kernel)) (by decide +kernel)
theorem MLa_RX5_19 : Cond.methodLink RX5 19 arraycopyName ∈ g_w ∧ Cond.native arraycopyName ∈ g_w ∧ Cond.static arraycopyName ∈ g_w ∧ Cond.initialized "java/lang/System" ∈ g_w := ⟨g_w_mem (List.mem_of_getElem? (i := 503) (by decide +kernel)) (by decide +kernel), g_w_mem (List.mem_of_getElem? (i := 505) (by decide +kernel)) (by decide +kernel), g_w_mem (List.mem_of_getElem? (i := 504) (by decide +kernel)) (by decide +kernel), g_w_mem (List.mem_of_getElem? (i := 107) (by decide +kernel)) (by decide +kernel)⟩
theorem ML_RX5_29 : Cond.methodLink RX5 29 yX5_isAt ∈ g_w := g_w_mem (List.mem_of_getElem? (i := 495) (by decide +kernel)) (by decide +kernel)
theorem ML_RX6_19 : Cond.methodLink RX6 19 yX6_put ∈ g_w := g_w_mem (List.mem_of_getElem? (i := 743) (by decide +kernel)) (by decide +kernel)
theorem ML_RX7_25 : Cond.methodLink RX7 25 yX4_readFirst ∈ g_w := g_w_mem (List.mem_of_getElem? (i := 428) (by decide +kernel)) (by decide +kernel)
theorem ML_RX7_31 : Cond.methodLink RX7 31 yX7_start ∈ g_w := g_w_mem (List.mem_of_getElem? (i := 424) (by decide +kernel)) (by decide +kernel)
theorem ML_RX7_33 : Cond.methodLink RX7 33 yX9_clear ∈ g_w := g_w_mem (List.mem_of_getElem? (i := 449) (by decide +kernel)) (by decide +kernel)
theorem ML_RX7_40 : Cond.methodLink RX7 40 yX7_keyword ∈ g_w := g_w_mem (List.mem_of_getElem? (i := 461) (by decide +kernel)) (by decide +kernel)
theorem ML_RX7_44 : Cond.methodLink RX7 44 yX7_semicolon ∈ g_w := g_w_mem (List.mem_of_getElem? (i := 474) (by decide +kernel)) (by decide +kernel)
theorem ML_RX7_48 : Cond.methodLink RX7 48 yX7_pastures ∈ g_w := g_w_mem (List.mem_of_getElem? (i := 478) (by decide +kernel)) (by decide +kernel)
theorem ML_RX7_52 : Cond.methodLink RX7 52 yX7_herds ∈ g_w := g_w_mem (List.mem_of_getElem? (i := 510) (by decide +kernel)) (by decide +kernel)
theorem ML_RX7_55 : Cond.methodLink RX7 55 yX7_pasture ∈ g_w := g_w_mem (List.mem_of_getElem? (i := 482) (by decide +kernel)) (by decide +kernel)
theorem ML_RX7_59 : Cond.methodLink RX7 59 yX4_isWord ∈ g_w := g_w_mem (List.mem_of_getElem? (i := 465) (by decide +kernel)) (by decide +kernel)
theorem ML_RX7_62 : Cond.methodLink RX7 62 yX7_fail ∈ g_w := g_w_mem (List.mem_of_getElem? (i := 469) (by decide +kernel)) (by decide +kernel)
theorem ML_RX7_74 : Cond.methodLink RX7 74 yX7_newName ∈ g_w := g_w_mem (List.mem_of_getElem? (i := 487) (by decide +kernel)) (by decide +kernel)
theorem ML_RX7_78 : Cond.methodLink RX7 78 yX7_numberUpTo ∈ g_w := g_w_mem (List.mem_of_getElem? (i := 506) (by decide +kernel)) (by decide +kernel)
theorem ML_RX7_88 : Cond.methodLink RX7 88 yX4_readNext ∈ g_w := g_w_mem (List.mem_of_getElem? (i := 473) (by decide +kernel)) (by decide +kernel)
theorem ML_RX7_91 : Cond.methodLink RX7 91 yX7_herd ∈ g_w := g_w_mem (List.mem_of_getElem? (i := 514) (by decide +kernel)) (by decide +kernel)
theorem ML_RX7_103 : Cond.methodLink RX7 103 yX9_cell ∈ g_w := g_w_mem (List.mem_of_getElem? (i := 519) (by decide +kernel)) (by decide +kernel)
theorem ML_RX7_112 : Cond.methodLink RX7 112 yX7_command ∈ g_w := g_w_mem (List.mem_of_getElem? (i := 1297) (by decide +kernel)) (by decide +kernel)
theorem ML_RX7_116 : Cond.methodLink RX7 116 yX7_commandKind ∈ g_w := g_w_mem (List.mem_of_getElem? (i := 1301) (by decide +kernel)) (by decide +kernel)
theorem ML_RX7_120 : Cond.methodLink RX7 120 yX8_word ∈ g_w := g_w_mem (List.mem_of_getElem? (i := 1305) (by decide +kernel)) (by decide +kernel)
theorem ML_RX7_124 : Cond.methodLink RX7 124 yX8_add ∈ g_w := g_w_mem (List.mem_of_getElem? (i := 1315) (by decide +kernel)) (by decide +kernel)
theorem ML_RX7_128 : Cond.methodLink RX7 128 yX7_name ∈ g_w := g_w_mem (List.mem_of_getElem? (i := 1319) (by decide +kernel)) (by decide +kernel)
theorem ML_RX7_132 : Cond.methodLink RX7 132 yX7_number ∈ g_w := g_w_mem (List.mem_of_getElem? (i := 1327) (by decide +kernel)) (by decide +kernel)
theorem ML_RX7_143 : Cond.methodLink RX7 143 yX5_find ∈ g_w := g_w_mem (List.mem_of_getElem? (i := 491) (by decide +kernel)) (by decide +kernel)
theorem ML_RX7_147 : Cond.methodLink RX7 147 yX5_add ∈ g_w := g_w_mem (List.mem_of_getElem? (i := 499) (by decide +kernel)) (by decide +kernel)
theorem ML_RX7_150 : Cond.methodLink RX7 150 yX8_setArgument ∈ g_w := g_w_mem (List.mem_of_getElem? (i := 1323) (by decide +kernel)) (by decide +kernel)
theorem ML_RX9_47 : Cond.methodLink RX9 47 yX5_copyFrom ∈ g_w := g_w_mem (List.mem_of_getElem? (i := 607) (by decide +kernel)) (by decide +kernel)
theorem MLa_RX9_51 : Cond.methodLink RX9 51 arraycopyName ∈ g_w ∧ Cond.native arraycopyName ∈ g_w ∧ Cond.static arraycopyName ∈ g_w ∧ Cond.initialized "java/lang/System" ∈ g_w := ⟨g_w_mem (List.mem_of_getElem? (i := 611) (by decide +kernel)) (by decide +kernel), g_w_mem (List.mem_of_getElem? (i := 505) (by decide +kernel)) (by decide +kernel), g_w_mem (List.mem_of_getElem? (i := 504) (by decide +kernel)) (by decide +kernel), g_w_mem (List.mem_of_getElem? (i := 107) (by decide +kernel)) (by decide +kernel)⟩
theorem ML_RX9_61 : Cond.methodLink RX9 61 yX1_copyFrom ∈ g_w := g_w_mem (List.mem_of_getElem? (i := 612) (by decide +kernel)) (by decide +kernel)
theorem ML_RX9_79 : Cond.methodLink RX9 79 yX9_cell ∈ g_w := g_w_mem (List.mem_of_getElem? (i := 453) (by decide +kernel)) (by decide +kernel)
theorem ML_RX9_83 : Cond.methodLink RX9 83 yX1_clear ∈ g_w := g_w_mem (List.mem_of_getElem? (i := 456) (by decide +kernel)) (by decide +kernel)
theorem ML_RX9_86 : Cond.methodLink RX9 86 yX9_heldUnits ∈ g_w := g_w_mem (List.mem_of_getElem? (i := 905) (by decide +kernel)) (by decide +kernel)
theorem ML_RX9_90 : Cond.methodLink RX9 90 yX9_waits ∈ g_w := g_w_mem (List.mem_of_getElem? (i := 1071) (by decide +kernel)) (by decide +kernel)
theorem ML_RX9_94 : Cond.methodLink RX9 94 yX9_freeUnits ∈ g_w := g_w_mem (List.mem_of_getElem? (i := 1072) (by decide +kernel)) (by decide +kernel)
theorem ML_RX9_97 : Cond.methodLink RX9 97 yX9_openClaim ∈ g_w := g_w_mem (List.mem_of_getElem? (i := 706) (by decide +kernel)) (by decide +kernel)
theorem ML_RX11_83 : Cond.methodLink RX11 83 yX11_begin ∈ g_w := g_w_mem (List.mem_of_getElem? (i := 1405) (by decide +kernel)) (by decide +kernel)
theorem ML_RX11_86 : Cond.methodLink RX11 86 yX11_parseSetup ∈ g_w := g_w_mem (List.mem_of_getElem? (i := 1419) (by decide +kernel)) (by decide +kernel)
theorem ML_RX11_90 : Cond.methodLink RX11 90 yX11_in ∈ g_w := g_w_mem (List.mem_of_getElem? (i := 1461) (by decide +kernel)) (by decide +kernel)
theorem ML_RX11_94 : Cond.methodLink RX11 94 yX11_isHerd ∈ g_w := g_w_mem (List.mem_of_getElem? (i := 1756) (by decide +kernel)) (by decide +kernel)
theorem ML_RX11_98 : Cond.methodLink RX11 98 yX11_isPasture ∈ g_w := g_w_mem (List.mem_of_getElem? (i := 1740) (by decide +kernel)) (by decide +kernel)
theorem ML_RX11_101 : Cond.methodLink RX11 101 yX11_copyBlock ∈ g_w := g_w_mem (List.mem_of_getElem? (i := 1558) (by decide +kernel)) (by decide +kernel)
theorem ML_RX11_105 : Cond.methodLink RX11 105 yX11_of ∈ g_w := g_w_mem (List.mem_of_getElem? (i := 1608) (by decide +kernel)) (by decide +kernel)
theorem ML_RX11_109 : Cond.methodLink RX11 109 yX11_capacityOf ∈ g_w := g_w_mem (List.mem_of_getElem? (i := 1473) (by decide +kernel)) (by decide +kernel)
theorem ML_RX11_113 : Cond.methodLink RX11 113 yX11_allocated ∈ g_w := g_w_mem (List.mem_of_getElem? (i := 1632) (by decide +kernel)) (by decide +kernel)
theorem ML_RX11_116 : Cond.methodLink RX11 116 yX11_free ∈ g_w := g_w_mem (List.mem_of_getElem? (i := 1648) (by decide +kernel)) (by decide +kernel)
theorem ML_RX11_119 : Cond.methodLink RX11 119 yX11_needOf ∈ g_w := g_w_mem (List.mem_of_getElem? (i := 1612) (by decide +kernel)) (by decide +kernel)
theorem ML_RX11_122 : Cond.methodLink RX11 122 yX11_takeFree ∈ g_w := g_w_mem (List.mem_of_getElem? (i := 1664) (by decide +kernel)) (by decide +kernel)
theorem ML_RX11_125 : Cond.methodLink RX11 125 yX11_fits ∈ g_w := g_w_mem (List.mem_of_getElem? (i := 1668) (by decide +kernel)) (by decide +kernel)
theorem ML_RX11_128 : Cond.methodLink RX11 128 yX11_giveBack ∈ g_w := g_w_mem (List.mem_of_getElem? (i := 1672) (by decide +kernel)) (by decide +kernel)
theorem ML_RX11_132 : Cond.methodLink RX11 132 yX11_isWaitingHerd ∈ g_w := g_w_mem (List.mem_of_getElem? (i := 1604) (by decide +kernel)) (by decide +kernel)
theorem ML_RX11_135 : Cond.methodLink RX11 135 yX11_set ∈ g_w := g_w_mem (List.mem_of_getElem? (i := 1656) (by decide +kernel)) (by decide +kernel)
theorem ML_RX11_139 : Cond.methodLink RX11 139 yX11_findOrder ∈ g_w := g_w_mem (List.mem_of_getElem? (i := 1660) (by decide +kernel)) (by decide +kernel)
theorem ML_RX11_142 : Cond.methodLink RX11 142 yX11_isSafeWith ∈ g_w := g_w_mem (List.mem_of_getElem? (i := 1652) (by decide +kernel)) (by decide +kernel)
theorem ML_RX11_145 : Cond.methodLink RX11 145 yX11_canGrant ∈ g_w := g_w_mem (List.mem_of_getElem? (i := 1644) (by decide +kernel)) (by decide +kernel)
theorem ML_RX11_148 : Cond.methodLink RX11 148 yX11_removeAt ∈ g_w := g_w_mem (List.mem_of_getElem? (i := 1688) (by decide +kernel)) (by decide +kernel)
theorem ML_RX11_151 : Cond.methodLink RX11 151 yX11_grantOnce ∈ g_w := g_w_mem (List.mem_of_getElem? (i := 1684) (by decide +kernel)) (by decide +kernel)
theorem ML_RX11_154 : Cond.methodLink RX11 154 yX11_withdraw ∈ g_w := g_w_mem (List.mem_of_getElem? (i := 1696) (by decide +kernel)) (by decide +kernel)
theorem ML_RX11_157 : Cond.methodLink RX11 157 yX11_process ∈ g_w := g_w_mem (List.mem_of_getElem? (i := 1680) (by decide +kernel)) (by decide +kernel)
theorem ML_RX11_160 : Cond.methodLink RX11 160 yX11_setCapacityOf ∈ g_w := g_w_mem (List.mem_of_getElem? (i := 1712) (by decide +kernel)) (by decide +kernel)
theorem ML_RX11_163 : Cond.methodLink RX11 163 yX11_debtOf ∈ g_w := g_w_mem (List.mem_of_getElem? (i := 1628) (by decide +kernel)) (by decide +kernel)
theorem ML_RX11_166 : Cond.methodLink RX11 166 yX11_walkFrom ∈ g_w := g_w_mem (List.mem_of_getElem? (i := 1624) (by decide +kernel)) (by decide +kernel)
theorem ML_RX11_169 : Cond.methodLink RX11 169 yX11_cycleLength ∈ g_w := g_w_mem (List.mem_of_getElem? (i := 1620) (by decide +kernel)) (by decide +kernel)
theorem ML_RX11_172 : Cond.methodLink RX11 172 yX11_fails ∈ g_w := g_w_mem (List.mem_of_getElem? (i := 1542) (by decide +kernel)) (by decide +kernel)
theorem ML_RX11_176 : Cond.methodLink RX11 176 yX11_appendWord ∈ g_w := g_w_mem (List.mem_of_getElem? (i := 1546) (by decide +kernel)) (by decide +kernel)
theorem ML_RX11_179 : Cond.methodLink RX11 179 yX11_isSmall ∈ g_w := g_w_mem (List.mem_of_getElem? (i := 1413) (by decide +kernel)) (by decide +kernel)
theorem ML_RX11_182 : Cond.methodLink RX11 182 yX11_isDigit ∈ g_w := g_w_mem (List.mem_of_getElem? (i := 1416) (by decide +kernel)) (by decide +kernel)
theorem ML_RX11_185 : Cond.methodLink RX11 185 yX11_token ∈ g_w := g_w_mem (List.mem_of_getElem? (i := 1409) (by decide +kernel)) (by decide +kernel)
theorem ML_RX11_188 : Cond.methodLink RX11 188 yX11_wrong ∈ g_w := g_w_mem (List.mem_of_getElem? (i := 1428) (by decide +kernel)) (by decide +kernel)
theorem ML_RX11_191 : Cond.methodLink RX11 191 yX11_isNamed ∈ g_w := g_w_mem (List.mem_of_getElem? (i := 1449) (by decide +kernel)) (by decide +kernel)
theorem ML_RX11_194 : Cond.methodLink RX11 194 yX11_isShortWord ∈ g_w := g_w_mem (List.mem_of_getElem? (i := 1441) (by decide +kernel)) (by decide +kernel)
theorem ML_RX11_197 : Cond.methodLink RX11 197 yX11_pastureNamed ∈ g_w := g_w_mem (List.mem_of_getElem? (i := 1445) (by decide +kernel)) (by decide +kernel)
theorem ML_RX11_200 : Cond.methodLink RX11 200 yX11_putName ∈ g_w := g_w_mem (List.mem_of_getElem? (i := 1453) (by decide +kernel)) (by decide +kernel)
theorem ML_RX11_203 : Cond.methodLink RX11 203 yX11_parseRanged ∈ g_w := g_w_mem (List.mem_of_getElem? (i := 1457) (by decide +kernel)) (by decide +kernel)
theorem ML_RX11_206 : Cond.methodLink RX11 206 yX11_semicolon ∈ g_w := g_w_mem (List.mem_of_getElem? (i := 1432) (by decide +kernel)) (by decide +kernel)
theorem ML_RX11_209 : Cond.methodLink RX11 209 yX11_herdNamed ∈ g_w := g_w_mem (List.mem_of_getElem? (i := 1469) (by decide +kernel)) (by decide +kernel)
theorem ML_RX11_214 : Cond.methodLink RX11 214 yX11_isWord ∈ g_w := g_w_mem (List.mem_of_getElem? (i := 1424) (by decide +kernel)) (by decide +kernel)
theorem ML_RX11_220 : Cond.methodLink RX11 220 yX11_parsePasture ∈ g_w := g_w_mem (List.mem_of_getElem? (i := 1437) (by decide +kernel)) (by decide +kernel)
theorem ML_RX11_225 : Cond.methodLink RX11 225 yX11_parseHerd ∈ g_w := g_w_mem (List.mem_of_getElem? (i := 1465) (by decide +kernel)) (by decide +kernel)
theorem ML_RX11_242 : Cond.methodLink RX11 242 yX11_nameOf ∈ g_w := g_w_mem (List.mem_of_getElem? (i := 1574) (by decide +kernel)) (by decide +kernel)
theorem ML_RX11_246 : Cond.methodLink RX11 246 yX11_parseNamed ∈ g_w := g_w_mem (List.mem_of_getElem? (i := 1588) (by decide +kernel)) (by decide +kernel)
theorem ML_RX11_250 : Cond.methodLink RX11 250 yX11_parseNumber ∈ g_w := g_w_mem (List.mem_of_getElem? (i := 1592) (by decide +kernel)) (by decide +kernel)
theorem ML_RX11_253 : Cond.methodLink RX11 253 yX11_commandHere ∈ g_w := g_w_mem (List.mem_of_getElem? (i := 1570) (by decide +kernel)) (by decide +kernel)
theorem ML_RX11_256 : Cond.methodLink RX11 256 yX11_parseArguments ∈ g_w := g_w_mem (List.mem_of_getElem? (i := 1584) (by decide +kernel)) (by decide +kernel)
theorem ML_RX11_260 : Cond.methodLink RX11 260 yX11_canLend ∈ g_w := g_w_mem (List.mem_of_getElem? (i := 1616) (by decide +kernel)) (by decide +kernel)
theorem ML_RX11_263 : Cond.methodLink RX11 263 yX11_requestIt ∈ g_w := g_w_mem (List.mem_of_getElem? (i := 1640) (by decide +kernel)) (by decide +kernel)
theorem ML_RX11_266 : Cond.methodLink RX11 266 yX11_releaseIt ∈ g_w := g_w_mem (List.mem_of_getElem? (i := 1676) (by decide +kernel)) (by decide +kernel)
theorem ML_RX11_270 : Cond.methodLink RX11 270 yX11_finishIt ∈ g_w := g_w_mem (List.mem_of_getElem? (i := 1692) (by decide +kernel)) (by decide +kernel)
theorem ML_RX11_273 : Cond.methodLink RX11 273 yX11_cancelIt ∈ g_w := g_w_mem (List.mem_of_getElem? (i := 1700) (by decide +kernel)) (by decide +kernel)
theorem ML_RX11_276 : Cond.methodLink RX11 276 yX11_addDebt ∈ g_w := g_w_mem (List.mem_of_getElem? (i := 1704) (by decide +kernel)) (by decide +kernel)
theorem ML_RX11_279 : Cond.methodLink RX11 279 yX11_resizeIt ∈ g_w := g_w_mem (List.mem_of_getElem? (i := 1708) (by decide +kernel)) (by decide +kernel)
theorem ML_RX11_282 : Cond.methodLink RX11 282 yX11_parseScript ∈ g_w := g_w_mem (List.mem_of_getElem? (i := 1566) (by decide +kernel)) (by decide +kernel)
theorem ML_RX11_285 : Cond.methodLink RX11 285 yX11_remember ∈ g_w := g_w_mem (List.mem_of_getElem? (i := 1596) (by decide +kernel)) (by decide +kernel)
theorem ML_RX11_288 : Cond.methodLink RX11 288 yX11_canDo ∈ g_w := g_w_mem (List.mem_of_getElem? (i := 1600) (by decide +kernel)) (by decide +kernel)
theorem ML_RX11_292 : Cond.methodLink RX11 292 yX11_doIt ∈ g_w := g_w_mem (List.mem_of_getElem? (i := 1636) (by decide +kernel)) (by decide +kernel)
theorem ML_RX11_296 : Cond.methodLink RX11 296 yX11_plain ∈ g_w := g_w_mem (List.mem_of_getElem? (i := 1728) (by decide +kernel)) (by decide +kernel)
theorem ML_RX11_299 : Cond.methodLink RX11 299 yX11_areThere ∈ g_w := g_w_mem (List.mem_of_getElem? (i := 1752) (by decide +kernel)) (by decide +kernel)
theorem ML_RX11_302 : Cond.methodLink RX11 302 yX11_letterAt ∈ g_w := g_w_mem (List.mem_of_getElem? (i := 1772) (by decide +kernel)) (by decide +kernel)
theorem ML_RX11_306 : Cond.methodLink RX11 306 yX11_refusal ∈ g_w := g_w_mem (List.mem_of_getElem? (i := 1800) (by decide +kernel)) (by decide +kernel)
theorem ML_RX11_309 : Cond.methodLink RX11 309 yX11_detect ∈ g_w := g_w_mem (List.mem_of_getElem? (i := 1844) (by decide +kernel)) (by decide +kernel)
theorem ML_RX11_312 : Cond.methodLink RX11 312 yX11_computeDepths ∈ g_w := g_w_mem (List.mem_of_getElem? (i := 1872) (by decide +kernel)) (by decide +kernel)
theorem ML_RX11_315 : Cond.methodLink RX11 315 yX11_areDebtorsDone ∈ g_w := g_w_mem (List.mem_of_getElem? (i := 1880) (by decide +kernel)) (by decide +kernel)
theorem ML_RX11_318 : Cond.methodLink RX11 318 yX11_reachesItself ∈ g_w := g_w_mem (List.mem_of_getElem? (i := 1916) (by decide +kernel)) (by decide +kernel)
theorem ML_RX11_321 : Cond.methodLink RX11 321 yX11_leastMaximum ∈ g_w := g_w_mem (List.mem_of_getElem? (i := 1944) (by decide +kernel)) (by decide +kernel)
theorem ML_RX11_324 : Cond.methodLink RX11 324 yX11_put ∈ g_w := g_w_mem (List.mem_of_getElem? (i := 1972) (by decide +kernel)) (by decide +kernel)
