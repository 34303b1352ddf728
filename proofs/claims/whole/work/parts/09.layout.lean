/-! ===== where everything lies once both objects are made ===== -/
def SH : List pShp := [.inl 5, .inr (3, 16), .inr (0, 16), .inr (4, 5), .inl 1, .inr (0, 136), .inr (0, 136), .inr (1, 136), .inr (1, 136), .inr (1, 8), .inr (1, 17), .inr (0, 17), .inr (1, 17), .inr (0, 17), .inr (2, 17), .inl 2, .inr (0, 100), .inr (0, 16), .inr (0, 16), .inl 3, .inr (0, 16), .inr (4, 5), .inl 0, .inl 4, .inr (0, 16), .inr (0, 16), .inr (0, 16), .inr (2, 16), .inr (1, 16), .inl 0, .inl 4, .inr (0, 16), .inr (0, 16), .inr (0, 16), .inr (2, 16), .inr (1, 16), .inr (0, 256), .inr (0, 16), .inl 4, .inr (0, 8), .inr (0, 8), .inr (0, 8), .inr (2, 8), .inl 4, .inr (0, 8), .inr (0, 8), .inr (0, 8), .inr (2, 8), .inl 4, .inr (0, 8), .inr (0, 8), .inr (0, 8), .inr (2, 8), .inl 4, .inr (0, 8), .inr (0, 8), .inr (0, 8), .inr (2, 8), .inl 4, .inr (0, 8), .inr (0, 8), .inr (0, 8), .inr (2, 8), .inl 4, .inr (0, 8), .inr (0, 8), .inr (0, 8), .inr (2, 8), .inl 4, .inr (0, 8), .inr (0, 8), .inr (0, 8), .inr (2, 8), .inl 4, .inr (0, 8), .inr (0, 8), .inr (0, 8), .inr (2, 8), .inl 4, .inr (0, 8), .inr (0, 8), .inr (0, 8), .inr (2, 8), .inl 4, .inr (0, 8), .inr (0, 8), .inr (0, 8), .inr (2, 8), .inl 4, .inr (0, 8), .inr (0, 8), .inr (0, 8), .inr (2, 8), .inl 4, .inr (0, 8), .inr (0, 8), .inr (0, 8), .inr (2, 8), .inl 4, .inr (0, 8), .inr (0, 8), .inr (0, 8), .inr (2, 8), .inl 4, .inr (0, 8), .inr (0, 8), .inr (0, 8), .inr (2, 8), .inl 4, .inr (0, 8), .inr (0, 8), .inr (0, 8), .inr (2, 8), .inl 4, .inr (0, 8), .inr (0, 8), .inr (0, 8), .inr (2, 8), .inl 0, .inl 4, .inr (0, 16), .inr (0, 16), .inr (0, 16), .inr (2, 16), .inr (1, 16), .inl 0, .inl 4, .inr (0, 16), .inr (0, 16), .inr (0, 16), .inr (2, 16), .inr (1, 16), .inl 0, .inl 4, .inr (0, 16), .inr (0, 16), .inr (0, 16), .inr (2, 16), .inr (1, 16), .inl 0, .inl 4, .inr (0, 16), .inr (0, 16), .inr (0, 16), .inr (2, 16), .inr (1, 16), .inl 0, .inl 4, .inr (0, 16), .inr (0, 16), .inr (0, 16), .inr (2, 16), .inr (1, 16), .inl 6, .inr (0, 16), .inr (0, 128), .inr (0, 128), .inr (0, 128), .inr (0, 16), .inr (0, 5), .inr (0, 5), .inr (0, 5), .inr (0, 80), .inr (0, 80), .inr (0, 80), .inr (2, 80), .inr (0, 8), .inr (0, 8), .inr (0, 8), .inr (0, 16), .inr (0, 16), .inr (0, 16), .inr (2, 16), .inr (0, 4352), .inr (0, 8), .inr (0, 8), .inr (0, 80), .inr (0, 16), .inr (0, 16), .inr (0, 16)]
def RTl : List (List (Option Nat)) := [[some 1, some 2, some 3, some 4, some 15, some 19, some 20, some 21, some 22, some 29, some 36, some 37], [some 38, some 43, some 48, some 53, some 58, some 63, some 68, some 73, some 78, some 83, some 88, some 93, some 98, some 103, some 108, some 113], [], [some 118, some 125, some 132, some 139, some 146], [none, none, none, none, none, none, none, none, none, some 5, some 6, some 7, some 8, some 9, some 10, some 11, some 12, some 13, some 14], [], [], [], [], [], [], [], [], [], [], [some 16, some 17, some 18], [], [], [], [], [], [], [some 23, some 28], [some 24, some 25, some 26, some 27], [], [], [], [], [], [some 30, some 35], [some 31, some 32, some 33, some 34], [], [], [], [], [], [], [], [some 39, some 40, some 41, some 42], [], [], [], [], [some 44, some 45, some 46, some 47], [], [], [], [], [some 49, some 50, some 51, some 52], [], [], [], [], [some 54, some 55, some 56, some 57], [], [], [], [], [some 59, some 60, some 61, some 62], [], [], [], [], [some 64, some 65, some 66, some 67], [], [], [], [], [some 69, some 70, some 71, some 72], [], [], [], [], [some 74, some 75, some 76, some 77], [], [], [], [], [some 79, some 80, some 81, some 82], [], [], [], [], [some 84, some 85, some 86, some 87], [], [], [], [], [some 89, some 90, some 91, some 92], [], [], [], [], [some 94, some 95, some 96, some 97], [], [], [], [], [some 99, some 100, some 101, some 102], [], [], [], [], [some 104, some 105, some 106, some 107], [], [], [], [], [some 109, some 110, some 111, some 112], [], [], [], [], [some 114, some 115, some 116, some 117], [], [], [], [], [some 119, some 124], [some 120, some 121, some 122, some 123], [], [], [], [], [], [some 126, some 131], [some 127, some 128, some 129, some 130], [], [], [], [], [], [some 133, some 138], [some 134, some 135, some 136, some 137], [], [], [], [], [], [some 140, some 145], [some 141, some 142, some 143, some 144], [], [], [], [], [], [some 147, some 152], [some 148, some 149, some 150, some 151], [], [], [], [], [], [none, some 154, some 155, some 156, some 157, some 158, some 159, none, none, none, none, some 160, some 161, some 162, some 163, some 164, some 165, none, some 166, some 167, some 168, none, some 169, some 170, some 171, some 172, some 173, some 174, none, none, none, some 175, some 176, some 177, none, none, none, some 178, some 179], [], [], [], [], [], [], [], [], [], [], [], [], [], [], [], [], [], [], [], [], [], [], [], [], [], []]
def RT (a i : Nat) : Option Nat := (RTl.getD a []).getD i none
theorem sh_0 : SH[0]? = some (.inl 5) := rfl
theorem sh_1 : SH[1]? = some (.inr (3, 16)) := rfl
theorem sh_2 : SH[2]? = some (.inr (0, 16)) := rfl
theorem sh_3 : SH[3]? = some (.inr (4, 5)) := rfl
theorem sh_4 : SH[4]? = some (.inl 1) := rfl
theorem sh_5 : SH[5]? = some (.inr (0, 136)) := rfl
theorem sh_6 : SH[6]? = some (.inr (0, 136)) := rfl
theorem sh_7 : SH[7]? = some (.inr (1, 136)) := rfl
theorem sh_8 : SH[8]? = some (.inr (1, 136)) := rfl
theorem sh_9 : SH[9]? = some (.inr (1, 8)) := rfl
theorem sh_10 : SH[10]? = some (.inr (1, 17)) := rfl
theorem sh_11 : SH[11]? = some (.inr (0, 17)) := rfl
theorem sh_12 : SH[12]? = some (.inr (1, 17)) := rfl
theorem sh_13 : SH[13]? = some (.inr (0, 17)) := rfl
theorem sh_14 : SH[14]? = some (.inr (2, 17)) := rfl
theorem sh_15 : SH[15]? = some (.inl 2) := rfl
theorem sh_16 : SH[16]? = some (.inr (0, 100)) := rfl
theorem sh_17 : SH[17]? = some (.inr (0, 16)) := rfl
theorem sh_18 : SH[18]? = some (.inr (0, 16)) := rfl
theorem sh_19 : SH[19]? = some (.inl 3) := rfl
theorem sh_20 : SH[20]? = some (.inr (0, 16)) := rfl
theorem sh_21 : SH[21]? = some (.inr (4, 5)) := rfl
theorem sh_22 : SH[22]? = some (.inl 0) := rfl
theorem sh_23 : SH[23]? = some (.inl 4) := rfl
theorem sh_24 : SH[24]? = some (.inr (0, 16)) := rfl
theorem sh_25 : SH[25]? = some (.inr (0, 16)) := rfl
theorem sh_26 : SH[26]? = some (.inr (0, 16)) := rfl
theorem sh_27 : SH[27]? = some (.inr (2, 16)) := rfl
theorem sh_28 : SH[28]? = some (.inr (1, 16)) := rfl
theorem sh_29 : SH[29]? = some (.inl 0) := rfl
theorem sh_30 : SH[30]? = some (.inl 4) := rfl
theorem sh_31 : SH[31]? = some (.inr (0, 16)) := rfl
theorem sh_32 : SH[32]? = some (.inr (0, 16)) := rfl
theorem sh_33 : SH[33]? = some (.inr (0, 16)) := rfl
theorem sh_34 : SH[34]? = some (.inr (2, 16)) := rfl
theorem sh_35 : SH[35]? = some (.inr (1, 16)) := rfl
theorem sh_36 : SH[36]? = some (.inr (0, 256)) := rfl
theorem sh_37 : SH[37]? = some (.inr (0, 16)) := rfl
theorem sh_38 : SH[38]? = some (.inl 4) := rfl
theorem sh_39 : SH[39]? = some (.inr (0, 8)) := rfl
theorem sh_40 : SH[40]? = some (.inr (0, 8)) := rfl
theorem sh_41 : SH[41]? = some (.inr (0, 8)) := rfl
theorem sh_42 : SH[42]? = some (.inr (2, 8)) := rfl
theorem sh_43 : SH[43]? = some (.inl 4) := rfl
theorem sh_44 : SH[44]? = some (.inr (0, 8)) := rfl
theorem sh_45 : SH[45]? = some (.inr (0, 8)) := rfl
theorem sh_46 : SH[46]? = some (.inr (0, 8)) := rfl
theorem sh_47 : SH[47]? = some (.inr (2, 8)) := rfl
theorem sh_48 : SH[48]? = some (.inl 4) := rfl
theorem sh_49 : SH[49]? = some (.inr (0, 8)) := rfl
theorem sh_50 : SH[50]? = some (.inr (0, 8)) := rfl
theorem sh_51 : SH[51]? = some (.inr (0, 8)) := rfl
theorem sh_52 : SH[52]? = some (.inr (2, 8)) := rfl
theorem sh_53 : SH[53]? = some (.inl 4) := rfl
theorem sh_54 : SH[54]? = some (.inr (0, 8)) := rfl
theorem sh_55 : SH[55]? = some (.inr (0, 8)) := rfl
theorem sh_56 : SH[56]? = some (.inr (0, 8)) := rfl
theorem sh_57 : SH[57]? = some (.inr (2, 8)) := rfl
theorem sh_58 : SH[58]? = some (.inl 4) := rfl
theorem sh_59 : SH[59]? = some (.inr (0, 8)) := rfl
theorem sh_60 : SH[60]? = some (.inr (0, 8)) := rfl
theorem sh_61 : SH[61]? = some (.inr (0, 8)) := rfl
theorem sh_62 : SH[62]? = some (.inr (2, 8)) := rfl
theorem sh_63 : SH[63]? = some (.inl 4) := rfl
theorem sh_64 : SH[64]? = some (.inr (0, 8)) := rfl
theorem sh_65 : SH[65]? = some (.inr (0, 8)) := rfl
theorem sh_66 : SH[66]? = some (.inr (0, 8)) := rfl
theorem sh_67 : SH[67]? = some (.inr (2, 8)) := rfl
theorem sh_68 : SH[68]? = some (.inl 4) := rfl
theorem sh_69 : SH[69]? = some (.inr (0, 8)) := rfl
theorem sh_70 : SH[70]? = some (.inr (0, 8)) := rfl
theorem sh_71 : SH[71]? = some (.inr (0, 8)) := rfl
theorem sh_72 : SH[72]? = some (.inr (2, 8)) := rfl
theorem sh_73 : SH[73]? = some (.inl 4) := rfl
theorem sh_74 : SH[74]? = some (.inr (0, 8)) := rfl
theorem sh_75 : SH[75]? = some (.inr (0, 8)) := rfl
theorem sh_76 : SH[76]? = some (.inr (0, 8)) := rfl
theorem sh_77 : SH[77]? = some (.inr (2, 8)) := rfl
theorem sh_78 : SH[78]? = some (.inl 4) := rfl
theorem sh_79 : SH[79]? = some (.inr (0, 8)) := rfl
theorem sh_80 : SH[80]? = some (.inr (0, 8)) := rfl
theorem sh_81 : SH[81]? = some (.inr (0, 8)) := rfl
theorem sh_82 : SH[82]? = some (.inr (2, 8)) := rfl
theorem sh_83 : SH[83]? = some (.inl 4) := rfl
theorem sh_84 : SH[84]? = some (.inr (0, 8)) := rfl
theorem sh_85 : SH[85]? = some (.inr (0, 8)) := rfl
theorem sh_86 : SH[86]? = some (.inr (0, 8)) := rfl
theorem sh_87 : SH[87]? = some (.inr (2, 8)) := rfl
theorem sh_88 : SH[88]? = some (.inl 4) := rfl
theorem sh_89 : SH[89]? = some (.inr (0, 8)) := rfl
theorem sh_90 : SH[90]? = some (.inr (0, 8)) := rfl
theorem sh_91 : SH[91]? = some (.inr (0, 8)) := rfl
theorem sh_92 : SH[92]? = some (.inr (2, 8)) := rfl
theorem sh_93 : SH[93]? = some (.inl 4) := rfl
theorem sh_94 : SH[94]? = some (.inr (0, 8)) := rfl
theorem sh_95 : SH[95]? = some (.inr (0, 8)) := rfl
theorem sh_96 : SH[96]? = some (.inr (0, 8)) := rfl
theorem sh_97 : SH[97]? = some (.inr (2, 8)) := rfl
theorem sh_98 : SH[98]? = some (.inl 4) := rfl
theorem sh_99 : SH[99]? = some (.inr (0, 8)) := rfl
theorem sh_100 : SH[100]? = some (.inr (0, 8)) := rfl
theorem sh_101 : SH[101]? = some (.inr (0, 8)) := rfl
theorem sh_102 : SH[102]? = some (.inr (2, 8)) := rfl
theorem sh_103 : SH[103]? = some (.inl 4) := rfl
theorem sh_104 : SH[104]? = some (.inr (0, 8)) := rfl
theorem sh_105 : SH[105]? = some (.inr (0, 8)) := rfl
theorem sh_106 : SH[106]? = some (.inr (0, 8)) := rfl
theorem sh_107 : SH[107]? = some (.inr (2, 8)) := rfl
theorem sh_108 : SH[108]? = some (.inl 4) := rfl
theorem sh_109 : SH[109]? = some (.inr (0, 8)) := rfl
theorem sh_110 : SH[110]? = some (.inr (0, 8)) := rfl
theorem sh_111 : SH[111]? = some (.inr (0, 8)) := rfl
theorem sh_112 : SH[112]? = some (.inr (2, 8)) := rfl
theorem sh_113 : SH[113]? = some (.inl 4) := rfl
theorem sh_114 : SH[114]? = some (.inr (0, 8)) := rfl
theorem sh_115 : SH[115]? = some (.inr (0, 8)) := rfl
theorem sh_116 : SH[116]? = some (.inr (0, 8)) := rfl
theorem sh_117 : SH[117]? = some (.inr (2, 8)) := rfl
theorem sh_118 : SH[118]? = some (.inl 0) := rfl
theorem sh_119 : SH[119]? = some (.inl 4) := rfl
theorem sh_120 : SH[120]? = some (.inr (0, 16)) := rfl
theorem sh_121 : SH[121]? = some (.inr (0, 16)) := rfl
theorem sh_122 : SH[122]? = some (.inr (0, 16)) := rfl
theorem sh_123 : SH[123]? = some (.inr (2, 16)) := rfl
theorem sh_124 : SH[124]? = some (.inr (1, 16)) := rfl
theorem sh_125 : SH[125]? = some (.inl 0) := rfl
theorem sh_126 : SH[126]? = some (.inl 4) := rfl
theorem sh_127 : SH[127]? = some (.inr (0, 16)) := rfl
theorem sh_128 : SH[128]? = some (.inr (0, 16)) := rfl
theorem sh_129 : SH[129]? = some (.inr (0, 16)) := rfl
theorem sh_130 : SH[130]? = some (.inr (2, 16)) := rfl
theorem sh_131 : SH[131]? = some (.inr (1, 16)) := rfl
theorem sh_132 : SH[132]? = some (.inl 0) := rfl
theorem sh_133 : SH[133]? = some (.inl 4) := rfl
theorem sh_134 : SH[134]? = some (.inr (0, 16)) := rfl
theorem sh_135 : SH[135]? = some (.inr (0, 16)) := rfl
theorem sh_136 : SH[136]? = some (.inr (0, 16)) := rfl
theorem sh_137 : SH[137]? = some (.inr (2, 16)) := rfl
theorem sh_138 : SH[138]? = some (.inr (1, 16)) := rfl
theorem sh_139 : SH[139]? = some (.inl 0) := rfl
theorem sh_140 : SH[140]? = some (.inl 4) := rfl
theorem sh_141 : SH[141]? = some (.inr (0, 16)) := rfl
theorem sh_142 : SH[142]? = some (.inr (0, 16)) := rfl
theorem sh_143 : SH[143]? = some (.inr (0, 16)) := rfl
theorem sh_144 : SH[144]? = some (.inr (2, 16)) := rfl
theorem sh_145 : SH[145]? = some (.inr (1, 16)) := rfl
theorem sh_146 : SH[146]? = some (.inl 0) := rfl
theorem sh_147 : SH[147]? = some (.inl 4) := rfl
theorem sh_148 : SH[148]? = some (.inr (0, 16)) := rfl
theorem sh_149 : SH[149]? = some (.inr (0, 16)) := rfl
theorem sh_150 : SH[150]? = some (.inr (0, 16)) := rfl
theorem sh_151 : SH[151]? = some (.inr (2, 16)) := rfl
theorem sh_152 : SH[152]? = some (.inr (1, 16)) := rfl
theorem sh_153 : SH[153]? = some (.inl 6) := rfl
theorem sh_154 : SH[154]? = some (.inr (0, 16)) := rfl
theorem sh_155 : SH[155]? = some (.inr (0, 128)) := rfl
theorem sh_156 : SH[156]? = some (.inr (0, 128)) := rfl
theorem sh_157 : SH[157]? = some (.inr (0, 128)) := rfl
theorem sh_158 : SH[158]? = some (.inr (0, 16)) := rfl
theorem sh_159 : SH[159]? = some (.inr (0, 5)) := rfl
theorem sh_160 : SH[160]? = some (.inr (0, 5)) := rfl
theorem sh_161 : SH[161]? = some (.inr (0, 5)) := rfl
theorem sh_162 : SH[162]? = some (.inr (0, 80)) := rfl
theorem sh_163 : SH[163]? = some (.inr (0, 80)) := rfl
theorem sh_164 : SH[164]? = some (.inr (0, 80)) := rfl
theorem sh_165 : SH[165]? = some (.inr (2, 80)) := rfl
theorem sh_166 : SH[166]? = some (.inr (0, 8)) := rfl
theorem sh_167 : SH[167]? = some (.inr (0, 8)) := rfl
theorem sh_168 : SH[168]? = some (.inr (0, 8)) := rfl
theorem sh_169 : SH[169]? = some (.inr (0, 16)) := rfl
theorem sh_170 : SH[170]? = some (.inr (0, 16)) := rfl
theorem sh_171 : SH[171]? = some (.inr (0, 16)) := rfl
theorem sh_172 : SH[172]? = some (.inr (2, 16)) := rfl
theorem sh_173 : SH[173]? = some (.inr (0, 4352)) := rfl
theorem sh_174 : SH[174]? = some (.inr (0, 8)) := rfl
theorem sh_175 : SH[175]? = some (.inr (0, 8)) := rfl
theorem sh_176 : SH[176]? = some (.inr (0, 80)) := rfl
theorem sh_177 : SH[177]? = some (.inr (0, 16)) := rfl
theorem sh_178 : SH[178]? = some (.inr (0, 16)) := rfl
theorem sh_179 : SH[179]? = some (.inr (0, 16)) := rfl
/-- the references stand as the constructors left them (those of triedKinds apart) -/
def pW (M : pMem) : Prop := ∀ a i b, RT a i = some b → mR M a i = some b
theorem sh_page : ∀ p, p < 16 → SH[38 + 5 * p]? = some (.inl 4) ∧ SH[38 + 5 * p + 1]? = some (.inr (0, 8)) ∧ SH[38 + 5 * p + 2]? = some (.inr (0, 8)) ∧ SH[38 + 5 * p + 3]? = some (.inr (0, 8)) ∧ SH[38 + 5 * p + 4]? = some (.inr (2, 8)) := by decide +kernel
theorem sh_kind : ∀ p, p < 5 → SH[118 + 7 * p]? = some (.inl 0) ∧ SH[118 + 7 * p + 1]? = some (.inl 4) ∧ SH[118 + 7 * p + 2]? = some (.inr (0, 16)) ∧ SH[118 + 7 * p + 3]? = some (.inr (0, 16)) ∧ SH[118 + 7 * p + 4]? = some (.inr (0, 16)) ∧ SH[118 + 7 * p + 5]? = some (.inr (2, 16)) ∧ SH[118 + 7 * p + 6]? = some (.inr (1, 16)) := by
  intro p hp
  rcases (show p = 0 ∨ p = 1 ∨ p = 2 ∨ p = 3 ∨ p = 4 by omega) with rfl | rfl | rfl | rfl | rfl <;> exact ⟨rfl, rfl, rfl, rfl, rfl, rfl, rfl⟩
theorem rt_page : ∀ p, p < 16 → RT 1 p = some (38 + 5 * p) ∧ RT (38 + 5 * p) 0 = some (38 + 5 * p + 1) ∧ RT (38 + 5 * p) 1 = some (38 + 5 * p + 2) ∧ RT (38 + 5 * p) 2 = some (38 + 5 * p + 3) ∧ RT (38 + 5 * p) 3 = some (38 + 5 * p + 4) := by decide +kernel
theorem rt_kind : ∀ p, p < 5 → RT 3 p = some (118 + 7 * p) ∧ RT (118 + 7 * p) 0 = some (118 + 7 * p + 1) ∧ RT (118 + 7 * p) 1 = some (118 + 7 * p + 6) ∧ RT (118 + 7 * p + 1) 0 = some (118 + 7 * p + 2) ∧ RT (118 + 7 * p + 1) 1 = some (118 + 7 * p + 3) ∧ RT (118 + 7 * p + 1) 2 = some (118 + 7 * p + 4) ∧ RT (118 + 7 * p + 1) 3 = some (118 + 7 * p + 5) := by decide +kernel
/-- a sheet of n places at a -/
def pSh (M : pMem) (a N : Nat) : Prop := SH[a]? = some (.inl 4) ∧ SH[a + 1]? = some (.inr (0, N)) ∧ SH[a + 2]? = some (.inr (0, N)) ∧ SH[a + 3]? = some (.inr (0, N)) ∧ SH[a + 4]? = some (.inr (2, N)) ∧ mR M a 0 = some (a + 1) ∧ mR M a 1 = some (a + 2) ∧ mR M a 2 = some (a + 3) ∧ mR M a 3 = some (a + 4)
/-- a kind at a -/
def pKd (M : pMem) (a : Nat) : Prop := SH[a]? = some (.inl 0) ∧ mR M a 0 = some (a + 1) ∧ pSh M (a + 1) 16 ∧ SH[a + 6]? = some (.inr (1, 16)) ∧ mR M a 1 = some (a + 6)
theorem pSh_page {M : pMem} (h : pW M) {p : Nat} (hp : p < 16) : pSh M (38 + 5 * p) 8 := by
  obtain ⟨a1, a2, a3, a4, a5⟩ := sh_page p hp
  obtain ⟨b1, b2, b3, b4, b5⟩ := rt_page p hp
  exact ⟨a1, a2, a3, a4, a5, h _ _ _ b2, h _ _ _ b3, h _ _ _ b4, h _ _ _ b5⟩
theorem pKd_kind {M : pMem} (h : pW M) {p : Nat} (hp : p < 5) : pKd M (118 + 7 * p) := by
  obtain ⟨a1, a2, a3, a4, a5, a6, a7⟩ := sh_kind p hp
  obtain ⟨b1, b2, b3, b4, b5, b6, b7⟩ := rt_kind p hp
  exact ⟨a1, h _ _ _ b2, ⟨a2, a3, a4, a5, a6, h _ _ _ b4, h _ _ _ b5, h _ _ _ b6, h _ _ _ b7⟩, a7, h _ _ _ b3⟩
theorem pKd_left {M : pMem} (h : pW M) : pKd M 22 := ⟨rfl, h 22 0 23 rfl, ⟨rfl, rfl, rfl, rfl, rfl, h 23 0 24 rfl, h 23 1 25 rfl, h 23 2 26 rfl, h 23 3 27 rfl⟩, rfl, h 22 1 28 rfl⟩
theorem pKd_join {M : pMem} (h : pW M) : pKd M 29 := ⟨rfl, h 29 0 30 rfl, ⟨rfl, rfl, rfl, rfl, rfl, h 30 0 31 rfl, h 30 1 32 rfl, h 30 2 33 rfl, h 30 3 34 rfl⟩, rfl, h 29 1 35 rfl⟩
/-! ===== rows of the memory as functions ===== -/
def wrI (M : pMem) (a : Nat) (f : Nat → Int) : pMem := (fun b j => if b = a then f j else M.1 b j, M.2.1, M.2.2)
def wrL (M : pMem) (a : Nat) (f : Nat → Int) : pMem := (M.1, fun b j => if b = a then f j else M.2.1 b j, M.2.2)
def up (f : Nat → Int) (i : Nat) (v : Int) : Nat → Int := fun j => if j = i then v else f j
theorem up_s {f : Nat → Int} {i : Nat} {v : Int} : up f i v i = v := by simp [up]
theorem up_n {f : Nat → Int} {i j : Nat} {v : Int} (h : j ≠ i) : up f i v j = f j := by simp [up, h]
theorem wrI_e (M : pMem) (a : Nat) : wrI M a (mI M a) = M := by
  unfold wrI mI
  have : (fun b j => if b = a then M.1 a j else M.1 b j) = M.1 := by funext b j; split <;> simp_all
  rw [this]
theorem wrL_e (M : pMem) (a : Nat) : wrL M a (mL M a) = M := by
  unfold wrL mL
  have : (fun b j => if b = a then M.2.1 a j else M.2.1 b j) = M.2.1 := by funext b j; split <;> simp_all
  rw [this]
theorem stI_w (M : pMem) (a i : Nat) (v : Int) : stI M a i v = wrI M a (up (mI M a) i v) := by
  unfold stI wrI up mI
  have : (fun b j => if b = a ∧ j = i then v else M.1 b j) = (fun b j => if b = a then (if j = i then v else M.1 a j) else M.1 b j) := by
    funext b j
    by_cases h : b = a
    · subst h; simp
    · simp [h]
  rw [this]
theorem stL_w (M : pMem) (a i : Nat) (v : Int) : stL M a i v = wrL M a (up (mL M a) i v) := by
  unfold stL wrL up mL
  have : (fun b j => if b = a ∧ j = i then v else M.2.1 b j) = (fun b j => if b = a then (if j = i then v else M.2.1 a j) else M.2.1 b j) := by
    funext b j
    by_cases h : b = a
    · subst h; simp
    · simp [h]
  rw [this]
theorem wrI_w (M : pMem) (a : Nat) (f h : Nat → Int) : wrI (wrI M a f) a h = wrI M a h := by
  unfold wrI
  have : (fun b j => if b = a then h j else (if b = a then f j else M.1 b j)) = (fun b j => if b = a then h j else M.1 b j) := by funext b j; split <;> simp_all
  simp only [this]
theorem wrL_w (M : pMem) (a : Nat) (f h : Nat → Int) : wrL (wrL M a f) a h = wrL M a h := by
  unfold wrL
  have : (fun b j => if b = a then h j else (if b = a then f j else M.2.1 b j)) = (fun b j => if b = a then h j else M.2.1 b j) := by funext b j; split <;> simp_all
  simp only [this]
theorem wrI_s (M : pMem) (a : Nat) (f : Nat → Int) (j : Nat) : mI (wrI M a f) a j = f j := by simp [wrI, mI]
theorem wrI_n (M : pMem) {a b : Nat} (f : Nat → Int) (j : Nat) (h : b ≠ a) : mI (wrI M a f) b j = mI M b j := by simp [wrI, mI, h]
theorem wrL_s (M : pMem) (a : Nat) (f : Nat → Int) (j : Nat) : mL (wrL M a f) a j = f j := by simp [wrL, mL]
theorem wrL_n (M : pMem) {a b : Nat} (f : Nat → Int) (j : Nat) (h : b ≠ a) : mL (wrL M a f) b j = mL M b j := by simp [wrL, mL, h]
theorem stI_wr (M : pMem) (a i : Nat) (v : Int) (f : Nat → Int) : stI (wrI M a f) a i v = wrI M a (up f i v) := by
  rw [stI_w, wrI_w]; congr 1; funext j; simp only [up]; split
  · rfl
  · exact wrI_s M a f j
theorem stL_wr (M : pMem) (a i : Nat) (v : Int) (f : Nat → Int) : stL (wrL M a f) a i v = wrL M a (up f i v) := by
  rw [stL_w, wrL_w]; congr 1; funext j; simp only [up]; split
  · rfl
  · exact wrL_s M a f j
theorem stI_s (M : pMem) (a i : Nat) (v : Int) : mI (stI M a i v) a i = v := by simp [stI, mI]
theorem stI_n (M : pMem) {a i b j : Nat} (v : Int) (h : b ≠ a ∨ j ≠ i) : mI (stI M a i v) b j = mI M b j := by
  unfold stI mI; dsimp only; rw [if_neg]; omega
theorem stL_s (M : pMem) (a i : Nat) (v : Int) : mL (stL M a i v) a i = v := by simp [stL, mL]
theorem stL_n (M : pMem) {a i b j : Nat} (v : Int) (h : b ≠ a ∨ j ≠ i) : mL (stL M a i v) b j = mL M b j := by
  unfold stL mL; dsimp only; rw [if_neg]; omega
/-! ===== loops ===== -/
theorem p_loop {σ : Type} (E I : σ → Prop) (μ : σ → Nat) (hs : ∀ s, I s → (∀ s', I s' → μ s' < μ s → E s') → E s) : ∀ s, I s → E s := by
  have h : ∀ n s, μ s < n → I s → E s := by
    intro n
    induction n with
    | zero => intro s h; omega
    | succ n ih => intro s h hI; exact hs s hI (fun s' h1 h2 => ih s' (by omega) h1)
  intro s hI
  exact h (μ s + 1) s (by omega) hI
theorem p_for {σ : Type} (e : Nat) (E I : Nat → σ → Prop) (hx : ∀ s, I e s → E e s) (hs : ∀ i s, i < e → I i s → (∀ s', I (i + 1) s' → E (i + 1) s') → E i s) : ∀ i s, i ≤ e → I i s → E i s := by
  have h : ∀ n i s, e - i ≤ n → i ≤ e → I i s → E i s := by
    intro n
    induction n with
    | zero => intro i s h1 h2 hI; have : i = e := by omega
              subst this; exact hx s hI
    | succ n ih =>
      intro i s h1 h2 hI
      rcases Nat.lt_or_ge i e with q | q
      · exact hs i s q hI (fun s' hI' => ih (i + 1) s' (by omega) (by omega) hI')
      · have : i = e := by omega
        subst this; exact hx s hI
  intro i s h1 hI
  exact h (e - i) i s (Nat.le_refl _) h1 hI
theorem pE_M {g : pG} {nL : Nat} {X : pX} {Qf : State → Prop} {S : List pShp} {M M' : pMem} {cs sl pc : Nat} {L : List (Option pV)} {st : List pV} (h : M = M') (k : pE g nL X Qf S M' cs sl pc L st) : pE g nL X Qf S M cs sl pc L st := h ▸ k
theorem pE_to {g : pG} {nL : Nat} {X : pX} {Qf : State → Prop} {S : List pShp} {M M' : pMem} {cs sl pc : Nat} {L L' : List (Option pV)} {st st' : List pV} (k : pE g nL X Qf S M' cs sl pc L' st') (h : M = M') (h1 : L = L') (h2 : st = st') : pE g nL X Qf S M cs sl pc L st := by subst h; subst h1; subst h2; exact k
