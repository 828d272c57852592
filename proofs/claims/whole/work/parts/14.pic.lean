/-! the class's picture: shapes and references as its constructor leaves them -/
def pv_SC : pv_Sh := pv_sp
def pv_muC (i k : Nat) : Bool := i == 78 && (k == 3 || k == 4)
def pv_l0 : List Nat := [8, 59, 63, 67, 71, 145, 149, 153, 157, 200, 204, 208, 212]
def pv_l2 : List Nat := [12, 23, 90, 109, 164]
def pv_l3 : List Nat := [14, 25, 111, 166]
def pv_l5 : List Nat := [2, 35, 41, 47, 53, 84, 99, 121, 127, 133, 139, 176, 182, 188, 194]
def pv_l6 : List Nat := [216, 218, 220, 222]
def pv_l7 : List Nat := [30, 79, 116, 171]
def pv_l8 : List Nat := [20, 106, 161]
abbrev MC (h : pv_H) : pv_H := pv_mx pv_SC pv_muC hC_fin h
theorem sc_0 : pv_SC[0]? = some (0, 9) := by decide +kernel
theorem sc_1 : pv_SC[1]? = some (0, 4) := by decide +kernel
theorem sc_2 : pv_SC[2]? = some (0, 5) := by decide +kernel
theorem sc_3 : pv_SC[3]? = some (1, 60) := by decide +kernel
theorem sc_4 : pv_SC[4]? = some (1, 60) := by decide +kernel
theorem sc_5 : pv_SC[5]? = some (1, 60) := by decide +kernel
theorem sc_6 : pv_SC[6]? = some (1, 60) := by decide +kernel
theorem sc_7 : pv_SC[7]? = some (1, 60) := by decide +kernel
theorem sc_8 : pv_SC[8]? = some (0, 0) := by decide +kernel
theorem sc_9 : pv_SC[9]? = some (1, 12) := by decide +kernel
theorem sc_10 : pv_SC[10]? = some (1, 12) := by decide +kernel
theorem sc_11 : pv_SC[11]? = some (1, 12) := by decide +kernel
theorem sc_12 : pv_SC[12]? = some (0, 2) := by decide +kernel
theorem sc_13 : pv_SC[13]? = some (1, 8) := by decide +kernel
theorem sc_14 : pv_SC[14]? = some (0, 3) := by decide +kernel
theorem sc_15 : pv_SC[15]? = some (1, 9) := by decide +kernel
theorem sc_16 : pv_SC[16]? = some (1, 400) := by decide +kernel
theorem sc_17 : pv_SC[17]? = some (1, 400) := by decide +kernel
theorem sc_18 : pv_SC[18]? = some (1, 401) := by decide +kernel
theorem sc_19 : pv_SC[19]? = some (4, 400) := by decide +kernel
theorem sc_20 : pv_SC[20]? = some (0, 8) := by decide +kernel
theorem sc_21 : pv_SC[21]? = some (5, 4) := by decide +kernel
theorem sc_22 : pv_SC[22]? = some (6, 4) := by decide +kernel
theorem sc_23 : pv_SC[23]? = some (0, 2) := by decide +kernel
theorem sc_24 : pv_SC[24]? = some (1, 8) := by decide +kernel
theorem sc_25 : pv_SC[25]? = some (0, 3) := by decide +kernel
theorem sc_26 : pv_SC[26]? = some (1, 9) := by decide +kernel
theorem sc_27 : pv_SC[27]? = some (1, 400) := by decide +kernel
theorem sc_28 : pv_SC[28]? = some (1, 400) := by decide +kernel
theorem sc_29 : pv_SC[29]? = some (1, 401) := by decide +kernel
theorem sc_30 : pv_SC[30]? = some (0, 7) := by decide +kernel
theorem sc_31 : pv_SC[31]? = some (1, 8) := by decide +kernel
theorem sc_32 : pv_SC[32]? = some (1, 240) := by decide +kernel
theorem sc_33 : pv_SC[33]? = some (1, 1200) := by decide +kernel
theorem sc_34 : pv_SC[34]? = some (1, 60) := by decide +kernel
theorem sc_35 : pv_SC[35]? = some (0, 5) := by decide +kernel
theorem sc_36 : pv_SC[36]? = some (1, 60) := by decide +kernel
theorem sc_37 : pv_SC[37]? = some (1, 60) := by decide +kernel
theorem sc_38 : pv_SC[38]? = some (1, 60) := by decide +kernel
theorem sc_39 : pv_SC[39]? = some (1, 60) := by decide +kernel
theorem sc_40 : pv_SC[40]? = some (1, 60) := by decide +kernel
theorem sc_41 : pv_SC[41]? = some (0, 5) := by decide +kernel
theorem sc_42 : pv_SC[42]? = some (1, 60) := by decide +kernel
theorem sc_43 : pv_SC[43]? = some (1, 60) := by decide +kernel
theorem sc_44 : pv_SC[44]? = some (1, 60) := by decide +kernel
theorem sc_45 : pv_SC[45]? = some (1, 60) := by decide +kernel
theorem sc_46 : pv_SC[46]? = some (1, 60) := by decide +kernel
theorem sc_47 : pv_SC[47]? = some (0, 5) := by decide +kernel
theorem sc_48 : pv_SC[48]? = some (1, 60) := by decide +kernel
theorem sc_49 : pv_SC[49]? = some (1, 60) := by decide +kernel
theorem sc_50 : pv_SC[50]? = some (1, 60) := by decide +kernel
theorem sc_51 : pv_SC[51]? = some (1, 60) := by decide +kernel
theorem sc_52 : pv_SC[52]? = some (1, 60) := by decide +kernel
theorem sc_53 : pv_SC[53]? = some (0, 5) := by decide +kernel
theorem sc_54 : pv_SC[54]? = some (1, 60) := by decide +kernel
theorem sc_55 : pv_SC[55]? = some (1, 60) := by decide +kernel
theorem sc_56 : pv_SC[56]? = some (1, 60) := by decide +kernel
theorem sc_57 : pv_SC[57]? = some (1, 60) := by decide +kernel
theorem sc_58 : pv_SC[58]? = some (1, 60) := by decide +kernel
theorem sc_59 : pv_SC[59]? = some (0, 0) := by decide +kernel
theorem sc_60 : pv_SC[60]? = some (1, 12) := by decide +kernel
theorem sc_61 : pv_SC[61]? = some (1, 12) := by decide +kernel
theorem sc_62 : pv_SC[62]? = some (1, 12) := by decide +kernel
theorem sc_63 : pv_SC[63]? = some (0, 0) := by decide +kernel
theorem sc_64 : pv_SC[64]? = some (1, 12) := by decide +kernel
theorem sc_65 : pv_SC[65]? = some (1, 12) := by decide +kernel
theorem sc_66 : pv_SC[66]? = some (1, 12) := by decide +kernel
theorem sc_67 : pv_SC[67]? = some (0, 0) := by decide +kernel
theorem sc_68 : pv_SC[68]? = some (1, 12) := by decide +kernel
theorem sc_69 : pv_SC[69]? = some (1, 12) := by decide +kernel
theorem sc_70 : pv_SC[70]? = some (1, 12) := by decide +kernel
theorem sc_71 : pv_SC[71]? = some (0, 0) := by decide +kernel
theorem sc_72 : pv_SC[72]? = some (1, 12) := by decide +kernel
theorem sc_73 : pv_SC[73]? = some (1, 12) := by decide +kernel
theorem sc_74 : pv_SC[74]? = some (1, 12) := by decide +kernel
theorem sc_75 : pv_SC[75]? = some (7, 2) := by decide +kernel
theorem sc_76 : pv_SC[76]? = some (8, 4) := by decide +kernel
theorem sc_77 : pv_SC[77]? = some (1, 8) := by decide +kernel
theorem sc_78 : pv_SC[78]? = some (0, 1) := by decide +kernel
theorem sc_79 : pv_SC[79]? = some (0, 7) := by decide +kernel
theorem sc_80 : pv_SC[80]? = some (1, 8) := by decide +kernel
theorem sc_81 : pv_SC[81]? = some (1, 240) := by decide +kernel
theorem sc_82 : pv_SC[82]? = some (1, 1200) := by decide +kernel
theorem sc_83 : pv_SC[83]? = some (1, 60) := by decide +kernel
theorem sc_84 : pv_SC[84]? = some (0, 5) := by decide +kernel
theorem sc_85 : pv_SC[85]? = some (1, 60) := by decide +kernel
theorem sc_86 : pv_SC[86]? = some (1, 60) := by decide +kernel
theorem sc_87 : pv_SC[87]? = some (1, 60) := by decide +kernel
theorem sc_88 : pv_SC[88]? = some (1, 60) := by decide +kernel
theorem sc_89 : pv_SC[89]? = some (1, 60) := by decide +kernel
theorem sc_90 : pv_SC[90]? = some (0, 2) := by decide +kernel
theorem sc_91 : pv_SC[91]? = some (1, 8) := by decide +kernel
theorem sc_92 : pv_SC[92]? = some (1, 60) := by decide +kernel
theorem sc_93 : pv_SC[93]? = some (1, 60) := by decide +kernel
theorem sc_94 : pv_SC[94]? = some (1, 60) := by decide +kernel
theorem sc_95 : pv_SC[95]? = some (1, 60) := by decide +kernel
theorem sc_96 : pv_SC[96]? = some (1, 200) := by decide +kernel
theorem sc_97 : pv_SC[97]? = some (1, 200) := by decide +kernel
theorem sc_98 : pv_SC[98]? = some (1, 200) := by decide +kernel
theorem sc_99 : pv_SC[99]? = some (0, 5) := by decide +kernel
theorem sc_100 : pv_SC[100]? = some (1, 60) := by decide +kernel
theorem sc_101 : pv_SC[101]? = some (1, 60) := by decide +kernel
theorem sc_102 : pv_SC[102]? = some (1, 60) := by decide +kernel
theorem sc_103 : pv_SC[103]? = some (1, 60) := by decide +kernel
theorem sc_104 : pv_SC[104]? = some (1, 60) := by decide +kernel
theorem sc_105 : pv_SC[105]? = some (1, 60) := by decide +kernel
theorem sc_106 : pv_SC[106]? = some (0, 8) := by decide +kernel
theorem sc_107 : pv_SC[107]? = some (5, 4) := by decide +kernel
theorem sc_108 : pv_SC[108]? = some (6, 4) := by decide +kernel
theorem sc_109 : pv_SC[109]? = some (0, 2) := by decide +kernel
theorem sc_110 : pv_SC[110]? = some (1, 8) := by decide +kernel
theorem sc_111 : pv_SC[111]? = some (0, 3) := by decide +kernel
theorem sc_112 : pv_SC[112]? = some (1, 9) := by decide +kernel
theorem sc_113 : pv_SC[113]? = some (1, 400) := by decide +kernel
theorem sc_114 : pv_SC[114]? = some (1, 400) := by decide +kernel
theorem sc_115 : pv_SC[115]? = some (1, 401) := by decide +kernel
theorem sc_116 : pv_SC[116]? = some (0, 7) := by decide +kernel
theorem sc_117 : pv_SC[117]? = some (1, 8) := by decide +kernel
theorem sc_118 : pv_SC[118]? = some (1, 240) := by decide +kernel
theorem sc_119 : pv_SC[119]? = some (1, 1200) := by decide +kernel
theorem sc_120 : pv_SC[120]? = some (1, 60) := by decide +kernel
theorem sc_121 : pv_SC[121]? = some (0, 5) := by decide +kernel
theorem sc_122 : pv_SC[122]? = some (1, 60) := by decide +kernel
theorem sc_123 : pv_SC[123]? = some (1, 60) := by decide +kernel
theorem sc_124 : pv_SC[124]? = some (1, 60) := by decide +kernel
theorem sc_125 : pv_SC[125]? = some (1, 60) := by decide +kernel
theorem sc_126 : pv_SC[126]? = some (1, 60) := by decide +kernel
theorem sc_127 : pv_SC[127]? = some (0, 5) := by decide +kernel
theorem sc_128 : pv_SC[128]? = some (1, 60) := by decide +kernel
theorem sc_129 : pv_SC[129]? = some (1, 60) := by decide +kernel
theorem sc_130 : pv_SC[130]? = some (1, 60) := by decide +kernel
theorem sc_131 : pv_SC[131]? = some (1, 60) := by decide +kernel
theorem sc_132 : pv_SC[132]? = some (1, 60) := by decide +kernel
theorem sc_133 : pv_SC[133]? = some (0, 5) := by decide +kernel
theorem sc_134 : pv_SC[134]? = some (1, 60) := by decide +kernel
theorem sc_135 : pv_SC[135]? = some (1, 60) := by decide +kernel
theorem sc_136 : pv_SC[136]? = some (1, 60) := by decide +kernel
theorem sc_137 : pv_SC[137]? = some (1, 60) := by decide +kernel
theorem sc_138 : pv_SC[138]? = some (1, 60) := by decide +kernel
theorem sc_139 : pv_SC[139]? = some (0, 5) := by decide +kernel
theorem sc_140 : pv_SC[140]? = some (1, 60) := by decide +kernel
theorem sc_141 : pv_SC[141]? = some (1, 60) := by decide +kernel
theorem sc_142 : pv_SC[142]? = some (1, 60) := by decide +kernel
theorem sc_143 : pv_SC[143]? = some (1, 60) := by decide +kernel
theorem sc_144 : pv_SC[144]? = some (1, 60) := by decide +kernel
theorem sc_145 : pv_SC[145]? = some (0, 0) := by decide +kernel
theorem sc_146 : pv_SC[146]? = some (1, 12) := by decide +kernel
theorem sc_147 : pv_SC[147]? = some (1, 12) := by decide +kernel
theorem sc_148 : pv_SC[148]? = some (1, 12) := by decide +kernel
theorem sc_149 : pv_SC[149]? = some (0, 0) := by decide +kernel
theorem sc_150 : pv_SC[150]? = some (1, 12) := by decide +kernel
theorem sc_151 : pv_SC[151]? = some (1, 12) := by decide +kernel
theorem sc_152 : pv_SC[152]? = some (1, 12) := by decide +kernel
theorem sc_153 : pv_SC[153]? = some (0, 0) := by decide +kernel
theorem sc_154 : pv_SC[154]? = some (1, 12) := by decide +kernel
theorem sc_155 : pv_SC[155]? = some (1, 12) := by decide +kernel
theorem sc_156 : pv_SC[156]? = some (1, 12) := by decide +kernel
theorem sc_157 : pv_SC[157]? = some (0, 0) := by decide +kernel
theorem sc_158 : pv_SC[158]? = some (1, 12) := by decide +kernel
theorem sc_159 : pv_SC[159]? = some (1, 12) := by decide +kernel
theorem sc_160 : pv_SC[160]? = some (1, 12) := by decide +kernel
theorem sc_161 : pv_SC[161]? = some (0, 8) := by decide +kernel
theorem sc_162 : pv_SC[162]? = some (5, 4) := by decide +kernel
theorem sc_163 : pv_SC[163]? = some (6, 4) := by decide +kernel
theorem sc_164 : pv_SC[164]? = some (0, 2) := by decide +kernel
theorem sc_165 : pv_SC[165]? = some (1, 8) := by decide +kernel
theorem sc_166 : pv_SC[166]? = some (0, 3) := by decide +kernel
theorem sc_167 : pv_SC[167]? = some (1, 9) := by decide +kernel
theorem sc_168 : pv_SC[168]? = some (1, 400) := by decide +kernel
theorem sc_169 : pv_SC[169]? = some (1, 400) := by decide +kernel
theorem sc_170 : pv_SC[170]? = some (1, 401) := by decide +kernel
theorem sc_171 : pv_SC[171]? = some (0, 7) := by decide +kernel
theorem sc_172 : pv_SC[172]? = some (1, 8) := by decide +kernel
theorem sc_173 : pv_SC[173]? = some (1, 240) := by decide +kernel
theorem sc_174 : pv_SC[174]? = some (1, 1200) := by decide +kernel
theorem sc_175 : pv_SC[175]? = some (1, 60) := by decide +kernel
theorem sc_176 : pv_SC[176]? = some (0, 5) := by decide +kernel
theorem sc_177 : pv_SC[177]? = some (1, 60) := by decide +kernel
theorem sc_178 : pv_SC[178]? = some (1, 60) := by decide +kernel
theorem sc_179 : pv_SC[179]? = some (1, 60) := by decide +kernel
theorem sc_180 : pv_SC[180]? = some (1, 60) := by decide +kernel
theorem sc_181 : pv_SC[181]? = some (1, 60) := by decide +kernel
theorem sc_182 : pv_SC[182]? = some (0, 5) := by decide +kernel
theorem sc_183 : pv_SC[183]? = some (1, 60) := by decide +kernel
theorem sc_184 : pv_SC[184]? = some (1, 60) := by decide +kernel
theorem sc_185 : pv_SC[185]? = some (1, 60) := by decide +kernel
theorem sc_186 : pv_SC[186]? = some (1, 60) := by decide +kernel
theorem sc_187 : pv_SC[187]? = some (1, 60) := by decide +kernel
theorem sc_188 : pv_SC[188]? = some (0, 5) := by decide +kernel
theorem sc_189 : pv_SC[189]? = some (1, 60) := by decide +kernel
theorem sc_190 : pv_SC[190]? = some (1, 60) := by decide +kernel
theorem sc_191 : pv_SC[191]? = some (1, 60) := by decide +kernel
theorem sc_192 : pv_SC[192]? = some (1, 60) := by decide +kernel
theorem sc_193 : pv_SC[193]? = some (1, 60) := by decide +kernel
theorem sc_194 : pv_SC[194]? = some (0, 5) := by decide +kernel
theorem sc_195 : pv_SC[195]? = some (1, 60) := by decide +kernel
theorem sc_196 : pv_SC[196]? = some (1, 60) := by decide +kernel
theorem sc_197 : pv_SC[197]? = some (1, 60) := by decide +kernel
theorem sc_198 : pv_SC[198]? = some (1, 60) := by decide +kernel
theorem sc_199 : pv_SC[199]? = some (1, 60) := by decide +kernel
theorem sc_200 : pv_SC[200]? = some (0, 0) := by decide +kernel
theorem sc_201 : pv_SC[201]? = some (1, 12) := by decide +kernel
theorem sc_202 : pv_SC[202]? = some (1, 12) := by decide +kernel
theorem sc_203 : pv_SC[203]? = some (1, 12) := by decide +kernel
theorem sc_204 : pv_SC[204]? = some (0, 0) := by decide +kernel
theorem sc_205 : pv_SC[205]? = some (1, 12) := by decide +kernel
theorem sc_206 : pv_SC[206]? = some (1, 12) := by decide +kernel
theorem sc_207 : pv_SC[207]? = some (1, 12) := by decide +kernel
theorem sc_208 : pv_SC[208]? = some (0, 0) := by decide +kernel
theorem sc_209 : pv_SC[209]? = some (1, 12) := by decide +kernel
theorem sc_210 : pv_SC[210]? = some (1, 12) := by decide +kernel
theorem sc_211 : pv_SC[211]? = some (1, 12) := by decide +kernel
theorem sc_212 : pv_SC[212]? = some (0, 0) := by decide +kernel
theorem sc_213 : pv_SC[213]? = some (1, 12) := by decide +kernel
theorem sc_214 : pv_SC[214]? = some (1, 12) := by decide +kernel
theorem sc_215 : pv_SC[215]? = some (1, 12) := by decide +kernel
theorem sc_216 : pv_SC[216]? = some (0, 6) := by decide +kernel
theorem sc_217 : pv_SC[217]? = some (2, 60) := by decide +kernel
theorem sc_218 : pv_SC[218]? = some (0, 6) := by decide +kernel
theorem sc_219 : pv_SC[219]? = some (2, 60) := by decide +kernel
theorem sc_220 : pv_SC[220]? = some (0, 6) := by decide +kernel
theorem sc_221 : pv_SC[221]? = some (2, 60) := by decide +kernel
theorem sc_222 : pv_SC[222]? = some (0, 6) := by decide +kernel
theorem sc_223 : pv_SC[223]? = some (2, 60) := by decide +kernel
theorem sc_224 : pv_SC[224]? = some (9, 204) := by decide +kernel
theorem hvc_0_0 : hC_fin 0 0 = ((1 : Nat) : Int) := by decide +kernel
theorem hvc_0_1 : hC_fin 0 1 = ((20 : Nat) : Int) := by decide +kernel
theorem hvc_0_2 : hC_fin 0 2 = ((75 : Nat) : Int) := by decide +kernel
theorem hvc_0_3 : hC_fin 0 3 = ((76 : Nat) : Int) := by decide +kernel
theorem hvc_0_4 : hC_fin 0 4 = ((77 : Nat) : Int) := by decide +kernel
theorem hvc_0_5 : hC_fin 0 5 = ((78 : Nat) : Int) := by decide +kernel
theorem hvc_0_6 : hC_fin 0 6 = ((99 : Nat) : Int) := by decide +kernel
theorem hvc_0_7 : hC_fin 0 7 = ((105 : Nat) : Int) := by decide +kernel
theorem hvc_1_3 : hC_fin 1 3 = ((2 : Nat) : Int) := by decide +kernel
theorem hvc_1_4 : hC_fin 1 4 = ((8 : Nat) : Int) := by decide +kernel
theorem hvc_1_5 : hC_fin 1 5 = ((12 : Nat) : Int) := by decide +kernel
theorem hvc_1_6 : hC_fin 1 6 = ((14 : Nat) : Int) := by decide +kernel
theorem hvc_1_7 : hC_fin 1 7 = ((19 : Nat) : Int) := by decide +kernel
theorem hvc_1_8 : hC_fin 1 8 = ((224 : Nat) : Int) := by decide +kernel
theorem hvc_2_2 : hC_fin 2 2 = ((3 : Nat) : Int) := by decide +kernel
theorem hvc_2_3 : hC_fin 2 3 = ((4 : Nat) : Int) := by decide +kernel
theorem hvc_2_4 : hC_fin 2 4 = ((5 : Nat) : Int) := by decide +kernel
theorem hvc_2_5 : hC_fin 2 5 = ((6 : Nat) : Int) := by decide +kernel
theorem hvc_2_6 : hC_fin 2 6 = ((7 : Nat) : Int) := by decide +kernel
theorem hvc_8_1 : hC_fin 8 1 = ((9 : Nat) : Int) := by decide +kernel
theorem hvc_8_2 : hC_fin 8 2 = ((10 : Nat) : Int) := by decide +kernel
theorem hvc_8_3 : hC_fin 8 3 = ((11 : Nat) : Int) := by decide +kernel
theorem hvc_12_1 : hC_fin 12 1 = ((13 : Nat) : Int) := by decide +kernel
theorem hvc_14_1 : hC_fin 14 1 = ((15 : Nat) : Int) := by decide +kernel
theorem hvc_14_2 : hC_fin 14 2 = ((16 : Nat) : Int) := by decide +kernel
theorem hvc_14_3 : hC_fin 14 3 = ((17 : Nat) : Int) := by decide +kernel
theorem hvc_14_4 : hC_fin 14 4 = ((18 : Nat) : Int) := by decide +kernel
theorem hvc_20_2 : hC_fin 20 2 = ((21 : Nat) : Int) := by decide +kernel
theorem hvc_20_3 : hC_fin 20 3 = ((22 : Nat) : Int) := by decide +kernel
theorem hvc_20_4 : hC_fin 20 4 = ((23 : Nat) : Int) := by decide +kernel
theorem hvc_20_5 : hC_fin 20 5 = ((25 : Nat) : Int) := by decide +kernel
theorem hvc_20_6 : hC_fin 20 6 = ((30 : Nat) : Int) := by decide +kernel
theorem hvc_23_1 : hC_fin 23 1 = ((24 : Nat) : Int) := by decide +kernel
theorem hvc_25_1 : hC_fin 25 1 = ((26 : Nat) : Int) := by decide +kernel
theorem hvc_25_2 : hC_fin 25 2 = ((27 : Nat) : Int) := by decide +kernel
theorem hvc_25_3 : hC_fin 25 3 = ((28 : Nat) : Int) := by decide +kernel
theorem hvc_25_4 : hC_fin 25 4 = ((29 : Nat) : Int) := by decide +kernel
theorem hvc_30_1 : hC_fin 30 1 = ((31 : Nat) : Int) := by decide +kernel
theorem hvc_30_2 : hC_fin 30 2 = ((32 : Nat) : Int) := by decide +kernel
theorem hvc_30_3 : hC_fin 30 3 = ((33 : Nat) : Int) := by decide +kernel
theorem hvc_30_4 : hC_fin 30 4 = ((34 : Nat) : Int) := by decide +kernel
theorem hvc_35_2 : hC_fin 35 2 = ((36 : Nat) : Int) := by decide +kernel
theorem hvc_35_3 : hC_fin 35 3 = ((37 : Nat) : Int) := by decide +kernel
theorem hvc_35_4 : hC_fin 35 4 = ((38 : Nat) : Int) := by decide +kernel
theorem hvc_35_5 : hC_fin 35 5 = ((39 : Nat) : Int) := by decide +kernel
theorem hvc_35_6 : hC_fin 35 6 = ((40 : Nat) : Int) := by decide +kernel
theorem hvc_41_2 : hC_fin 41 2 = ((42 : Nat) : Int) := by decide +kernel
theorem hvc_41_3 : hC_fin 41 3 = ((43 : Nat) : Int) := by decide +kernel
theorem hvc_41_4 : hC_fin 41 4 = ((44 : Nat) : Int) := by decide +kernel
theorem hvc_41_5 : hC_fin 41 5 = ((45 : Nat) : Int) := by decide +kernel
theorem hvc_41_6 : hC_fin 41 6 = ((46 : Nat) : Int) := by decide +kernel
theorem hvc_47_2 : hC_fin 47 2 = ((48 : Nat) : Int) := by decide +kernel
theorem hvc_47_3 : hC_fin 47 3 = ((49 : Nat) : Int) := by decide +kernel
theorem hvc_47_4 : hC_fin 47 4 = ((50 : Nat) : Int) := by decide +kernel
theorem hvc_47_5 : hC_fin 47 5 = ((51 : Nat) : Int) := by decide +kernel
theorem hvc_47_6 : hC_fin 47 6 = ((52 : Nat) : Int) := by decide +kernel
theorem hvc_53_2 : hC_fin 53 2 = ((54 : Nat) : Int) := by decide +kernel
theorem hvc_53_3 : hC_fin 53 3 = ((55 : Nat) : Int) := by decide +kernel
theorem hvc_53_4 : hC_fin 53 4 = ((56 : Nat) : Int) := by decide +kernel
theorem hvc_53_5 : hC_fin 53 5 = ((57 : Nat) : Int) := by decide +kernel
theorem hvc_53_6 : hC_fin 53 6 = ((58 : Nat) : Int) := by decide +kernel
theorem hvc_59_1 : hC_fin 59 1 = ((60 : Nat) : Int) := by decide +kernel
theorem hvc_59_2 : hC_fin 59 2 = ((61 : Nat) : Int) := by decide +kernel
theorem hvc_59_3 : hC_fin 59 3 = ((62 : Nat) : Int) := by decide +kernel
theorem hvc_63_1 : hC_fin 63 1 = ((64 : Nat) : Int) := by decide +kernel
theorem hvc_63_2 : hC_fin 63 2 = ((65 : Nat) : Int) := by decide +kernel
theorem hvc_63_3 : hC_fin 63 3 = ((66 : Nat) : Int) := by decide +kernel
theorem hvc_67_1 : hC_fin 67 1 = ((68 : Nat) : Int) := by decide +kernel
theorem hvc_67_2 : hC_fin 67 2 = ((69 : Nat) : Int) := by decide +kernel
theorem hvc_67_3 : hC_fin 67 3 = ((70 : Nat) : Int) := by decide +kernel
theorem hvc_71_1 : hC_fin 71 1 = ((72 : Nat) : Int) := by decide +kernel
theorem hvc_71_2 : hC_fin 71 2 = ((73 : Nat) : Int) := by decide +kernel
theorem hvc_71_3 : hC_fin 71 3 = ((74 : Nat) : Int) := by decide +kernel
theorem hvc_78_0 : hC_fin 78 0 = ((79 : Nat) : Int) := by decide +kernel
theorem hvc_78_11 : hC_fin 78 11 = ((92 : Nat) : Int) := by decide +kernel
theorem hvc_78_12 : hC_fin 78 12 = ((93 : Nat) : Int) := by decide +kernel
theorem hvc_78_13 : hC_fin 78 13 = ((94 : Nat) : Int) := by decide +kernel
theorem hvc_78_14 : hC_fin 78 14 = ((95 : Nat) : Int) := by decide +kernel
theorem hvc_78_15 : hC_fin 78 15 = ((96 : Nat) : Int) := by decide +kernel
theorem hvc_78_16 : hC_fin 78 16 = ((97 : Nat) : Int) := by decide +kernel
theorem hvc_78_17 : hC_fin 78 17 = ((98 : Nat) : Int) := by decide +kernel
theorem hvc_79_1 : hC_fin 79 1 = ((80 : Nat) : Int) := by decide +kernel
theorem hvc_79_2 : hC_fin 79 2 = ((81 : Nat) : Int) := by decide +kernel
theorem hvc_79_3 : hC_fin 79 3 = ((82 : Nat) : Int) := by decide +kernel
theorem hvc_79_4 : hC_fin 79 4 = ((83 : Nat) : Int) := by decide +kernel
theorem hvc_84_2 : hC_fin 84 2 = ((85 : Nat) : Int) := by decide +kernel
theorem hvc_84_3 : hC_fin 84 3 = ((86 : Nat) : Int) := by decide +kernel
theorem hvc_84_4 : hC_fin 84 4 = ((87 : Nat) : Int) := by decide +kernel
theorem hvc_84_5 : hC_fin 84 5 = ((88 : Nat) : Int) := by decide +kernel
theorem hvc_84_6 : hC_fin 84 6 = ((89 : Nat) : Int) := by decide +kernel
theorem hvc_90_1 : hC_fin 90 1 = ((91 : Nat) : Int) := by decide +kernel
theorem hvc_99_2 : hC_fin 99 2 = ((100 : Nat) : Int) := by decide +kernel
theorem hvc_99_3 : hC_fin 99 3 = ((101 : Nat) : Int) := by decide +kernel
theorem hvc_99_4 : hC_fin 99 4 = ((102 : Nat) : Int) := by decide +kernel
theorem hvc_99_5 : hC_fin 99 5 = ((103 : Nat) : Int) := by decide +kernel
theorem hvc_99_6 : hC_fin 99 6 = ((104 : Nat) : Int) := by decide +kernel
theorem hvc_106_2 : hC_fin 106 2 = ((107 : Nat) : Int) := by decide +kernel
theorem hvc_106_3 : hC_fin 106 3 = ((108 : Nat) : Int) := by decide +kernel
theorem hvc_106_4 : hC_fin 106 4 = ((109 : Nat) : Int) := by decide +kernel
theorem hvc_106_5 : hC_fin 106 5 = ((111 : Nat) : Int) := by decide +kernel
theorem hvc_106_6 : hC_fin 106 6 = ((116 : Nat) : Int) := by decide +kernel
theorem hvc_109_1 : hC_fin 109 1 = ((110 : Nat) : Int) := by decide +kernel
theorem hvc_111_1 : hC_fin 111 1 = ((112 : Nat) : Int) := by decide +kernel
theorem hvc_111_2 : hC_fin 111 2 = ((113 : Nat) : Int) := by decide +kernel
theorem hvc_111_3 : hC_fin 111 3 = ((114 : Nat) : Int) := by decide +kernel
theorem hvc_111_4 : hC_fin 111 4 = ((115 : Nat) : Int) := by decide +kernel
theorem hvc_116_1 : hC_fin 116 1 = ((117 : Nat) : Int) := by decide +kernel
theorem hvc_116_2 : hC_fin 116 2 = ((118 : Nat) : Int) := by decide +kernel
theorem hvc_116_3 : hC_fin 116 3 = ((119 : Nat) : Int) := by decide +kernel
theorem hvc_116_4 : hC_fin 116 4 = ((120 : Nat) : Int) := by decide +kernel
theorem hvc_121_2 : hC_fin 121 2 = ((122 : Nat) : Int) := by decide +kernel
theorem hvc_121_3 : hC_fin 121 3 = ((123 : Nat) : Int) := by decide +kernel
theorem hvc_121_4 : hC_fin 121 4 = ((124 : Nat) : Int) := by decide +kernel
theorem hvc_121_5 : hC_fin 121 5 = ((125 : Nat) : Int) := by decide +kernel
theorem hvc_121_6 : hC_fin 121 6 = ((126 : Nat) : Int) := by decide +kernel
theorem hvc_127_2 : hC_fin 127 2 = ((128 : Nat) : Int) := by decide +kernel
theorem hvc_127_3 : hC_fin 127 3 = ((129 : Nat) : Int) := by decide +kernel
theorem hvc_127_4 : hC_fin 127 4 = ((130 : Nat) : Int) := by decide +kernel
theorem hvc_127_5 : hC_fin 127 5 = ((131 : Nat) : Int) := by decide +kernel
theorem hvc_127_6 : hC_fin 127 6 = ((132 : Nat) : Int) := by decide +kernel
theorem hvc_133_2 : hC_fin 133 2 = ((134 : Nat) : Int) := by decide +kernel
theorem hvc_133_3 : hC_fin 133 3 = ((135 : Nat) : Int) := by decide +kernel
theorem hvc_133_4 : hC_fin 133 4 = ((136 : Nat) : Int) := by decide +kernel
theorem hvc_133_5 : hC_fin 133 5 = ((137 : Nat) : Int) := by decide +kernel
theorem hvc_133_6 : hC_fin 133 6 = ((138 : Nat) : Int) := by decide +kernel
theorem hvc_139_2 : hC_fin 139 2 = ((140 : Nat) : Int) := by decide +kernel
theorem hvc_139_3 : hC_fin 139 3 = ((141 : Nat) : Int) := by decide +kernel
theorem hvc_139_4 : hC_fin 139 4 = ((142 : Nat) : Int) := by decide +kernel
theorem hvc_139_5 : hC_fin 139 5 = ((143 : Nat) : Int) := by decide +kernel
theorem hvc_139_6 : hC_fin 139 6 = ((144 : Nat) : Int) := by decide +kernel
theorem hvc_145_1 : hC_fin 145 1 = ((146 : Nat) : Int) := by decide +kernel
theorem hvc_145_2 : hC_fin 145 2 = ((147 : Nat) : Int) := by decide +kernel
theorem hvc_145_3 : hC_fin 145 3 = ((148 : Nat) : Int) := by decide +kernel
theorem hvc_149_1 : hC_fin 149 1 = ((150 : Nat) : Int) := by decide +kernel
theorem hvc_149_2 : hC_fin 149 2 = ((151 : Nat) : Int) := by decide +kernel
theorem hvc_149_3 : hC_fin 149 3 = ((152 : Nat) : Int) := by decide +kernel
theorem hvc_153_1 : hC_fin 153 1 = ((154 : Nat) : Int) := by decide +kernel
theorem hvc_153_2 : hC_fin 153 2 = ((155 : Nat) : Int) := by decide +kernel
theorem hvc_153_3 : hC_fin 153 3 = ((156 : Nat) : Int) := by decide +kernel
theorem hvc_157_1 : hC_fin 157 1 = ((158 : Nat) : Int) := by decide +kernel
theorem hvc_157_2 : hC_fin 157 2 = ((159 : Nat) : Int) := by decide +kernel
theorem hvc_157_3 : hC_fin 157 3 = ((160 : Nat) : Int) := by decide +kernel
theorem hvc_161_2 : hC_fin 161 2 = ((162 : Nat) : Int) := by decide +kernel
theorem hvc_161_3 : hC_fin 161 3 = ((163 : Nat) : Int) := by decide +kernel
theorem hvc_161_4 : hC_fin 161 4 = ((164 : Nat) : Int) := by decide +kernel
theorem hvc_161_5 : hC_fin 161 5 = ((166 : Nat) : Int) := by decide +kernel
theorem hvc_161_6 : hC_fin 161 6 = ((171 : Nat) : Int) := by decide +kernel
theorem hvc_164_1 : hC_fin 164 1 = ((165 : Nat) : Int) := by decide +kernel
theorem hvc_166_1 : hC_fin 166 1 = ((167 : Nat) : Int) := by decide +kernel
theorem hvc_166_2 : hC_fin 166 2 = ((168 : Nat) : Int) := by decide +kernel
theorem hvc_166_3 : hC_fin 166 3 = ((169 : Nat) : Int) := by decide +kernel
theorem hvc_166_4 : hC_fin 166 4 = ((170 : Nat) : Int) := by decide +kernel
theorem hvc_171_1 : hC_fin 171 1 = ((172 : Nat) : Int) := by decide +kernel
theorem hvc_171_2 : hC_fin 171 2 = ((173 : Nat) : Int) := by decide +kernel
theorem hvc_171_3 : hC_fin 171 3 = ((174 : Nat) : Int) := by decide +kernel
theorem hvc_171_4 : hC_fin 171 4 = ((175 : Nat) : Int) := by decide +kernel
theorem hvc_176_2 : hC_fin 176 2 = ((177 : Nat) : Int) := by decide +kernel
theorem hvc_176_3 : hC_fin 176 3 = ((178 : Nat) : Int) := by decide +kernel
theorem hvc_176_4 : hC_fin 176 4 = ((179 : Nat) : Int) := by decide +kernel
theorem hvc_176_5 : hC_fin 176 5 = ((180 : Nat) : Int) := by decide +kernel
theorem hvc_176_6 : hC_fin 176 6 = ((181 : Nat) : Int) := by decide +kernel
theorem hvc_182_2 : hC_fin 182 2 = ((183 : Nat) : Int) := by decide +kernel
theorem hvc_182_3 : hC_fin 182 3 = ((184 : Nat) : Int) := by decide +kernel
theorem hvc_182_4 : hC_fin 182 4 = ((185 : Nat) : Int) := by decide +kernel
theorem hvc_182_5 : hC_fin 182 5 = ((186 : Nat) : Int) := by decide +kernel
theorem hvc_182_6 : hC_fin 182 6 = ((187 : Nat) : Int) := by decide +kernel
theorem hvc_188_2 : hC_fin 188 2 = ((189 : Nat) : Int) := by decide +kernel
theorem hvc_188_3 : hC_fin 188 3 = ((190 : Nat) : Int) := by decide +kernel
theorem hvc_188_4 : hC_fin 188 4 = ((191 : Nat) : Int) := by decide +kernel
theorem hvc_188_5 : hC_fin 188 5 = ((192 : Nat) : Int) := by decide +kernel
theorem hvc_188_6 : hC_fin 188 6 = ((193 : Nat) : Int) := by decide +kernel
theorem hvc_194_2 : hC_fin 194 2 = ((195 : Nat) : Int) := by decide +kernel
theorem hvc_194_3 : hC_fin 194 3 = ((196 : Nat) : Int) := by decide +kernel
theorem hvc_194_4 : hC_fin 194 4 = ((197 : Nat) : Int) := by decide +kernel
theorem hvc_194_5 : hC_fin 194 5 = ((198 : Nat) : Int) := by decide +kernel
theorem hvc_194_6 : hC_fin 194 6 = ((199 : Nat) : Int) := by decide +kernel
theorem hvc_200_1 : hC_fin 200 1 = ((201 : Nat) : Int) := by decide +kernel
theorem hvc_200_2 : hC_fin 200 2 = ((202 : Nat) : Int) := by decide +kernel
theorem hvc_200_3 : hC_fin 200 3 = ((203 : Nat) : Int) := by decide +kernel
theorem hvc_204_1 : hC_fin 204 1 = ((205 : Nat) : Int) := by decide +kernel
theorem hvc_204_2 : hC_fin 204 2 = ((206 : Nat) : Int) := by decide +kernel
theorem hvc_204_3 : hC_fin 204 3 = ((207 : Nat) : Int) := by decide +kernel
theorem hvc_208_1 : hC_fin 208 1 = ((209 : Nat) : Int) := by decide +kernel
theorem hvc_208_2 : hC_fin 208 2 = ((210 : Nat) : Int) := by decide +kernel
theorem hvc_208_3 : hC_fin 208 3 = ((211 : Nat) : Int) := by decide +kernel
theorem hvc_212_1 : hC_fin 212 1 = ((213 : Nat) : Int) := by decide +kernel
theorem hvc_212_2 : hC_fin 212 2 = ((214 : Nat) : Int) := by decide +kernel
theorem hvc_212_3 : hC_fin 212 3 = ((215 : Nat) : Int) := by decide +kernel
theorem hvc_216_2 : hC_fin 216 2 = ((217 : Nat) : Int) := by decide +kernel
theorem hvc_218_2 : hC_fin 218 2 = ((219 : Nat) : Int) := by decide +kernel
theorem hvc_220_2 : hC_fin 220 2 = ((221 : Nat) : Int) := by decide +kernel
theorem hvc_222_2 : hC_fin 222 2 = ((223 : Nat) : Int) := by decide +kernel
theorem sl0_0 : ∀ q ∈ pv_l0, pv_SC[q]? = some (0, 0) := by decide +kernel
theorem mu0_0 : ∀ q ∈ pv_l0, ∀ k, pv_muC q k = false := by
  intro q hq k
  have h : ∀ q ∈ pv_l0, (q == 78) = false := by decide +kernel
  unfold pv_muC
  rw [h q hq]
  rfl
theorem hl0_0_1 : ∀ q ∈ pv_l0, hC_fin q 1 = ((q + 1 : Nat) : Int) := by decide +kernel
theorem hl0_0_2 : ∀ q ∈ pv_l0, hC_fin q 2 = ((q + 2 : Nat) : Int) := by decide +kernel
theorem hl0_0_3 : ∀ q ∈ pv_l0, hC_fin q 3 = ((q + 3 : Nat) : Int) := by decide +kernel
theorem sl0_1 : ∀ q ∈ pv_l0, pv_SC[q + 1]? = some (1, 12) := by decide +kernel
theorem mu0_1 : ∀ q ∈ pv_l0, ∀ k, pv_muC (q + 1) k = false := by
  intro q hq k
  have h : ∀ q ∈ pv_l0, ((q + 1) == 78) = false := by decide +kernel
  unfold pv_muC
  rw [h q hq]
  rfl
theorem sl0_2 : ∀ q ∈ pv_l0, pv_SC[q + 2]? = some (1, 12) := by decide +kernel
theorem mu0_2 : ∀ q ∈ pv_l0, ∀ k, pv_muC (q + 2) k = false := by
  intro q hq k
  have h : ∀ q ∈ pv_l0, ((q + 2) == 78) = false := by decide +kernel
  unfold pv_muC
  rw [h q hq]
  rfl
theorem sl0_3 : ∀ q ∈ pv_l0, pv_SC[q + 3]? = some (1, 12) := by decide +kernel
theorem mu0_3 : ∀ q ∈ pv_l0, ∀ k, pv_muC (q + 3) k = false := by
  intro q hq k
  have h : ∀ q ∈ pv_l0, ((q + 3) == 78) = false := by decide +kernel
  unfold pv_muC
  rw [h q hq]
  rfl
theorem lt0 : ∀ q ∈ pv_l0, q < pv_SC.length := by decide +kernel
theorem sl2_0 : ∀ q ∈ pv_l2, pv_SC[q]? = some (0, 2) := by decide +kernel
theorem mu2_0 : ∀ q ∈ pv_l2, ∀ k, pv_muC q k = false := by
  intro q hq k
  have h : ∀ q ∈ pv_l2, (q == 78) = false := by decide +kernel
  unfold pv_muC
  rw [h q hq]
  rfl
theorem hl2_0_1 : ∀ q ∈ pv_l2, hC_fin q 1 = ((q + 1 : Nat) : Int) := by decide +kernel
theorem sl2_1 : ∀ q ∈ pv_l2, pv_SC[q + 1]? = some (1, 8) := by decide +kernel
theorem mu2_1 : ∀ q ∈ pv_l2, ∀ k, pv_muC (q + 1) k = false := by
  intro q hq k
  have h : ∀ q ∈ pv_l2, ((q + 1) == 78) = false := by decide +kernel
  unfold pv_muC
  rw [h q hq]
  rfl
theorem lt2 : ∀ q ∈ pv_l2, q < pv_SC.length := by decide +kernel
theorem sl3_0 : ∀ q ∈ pv_l3, pv_SC[q]? = some (0, 3) := by decide +kernel
theorem mu3_0 : ∀ q ∈ pv_l3, ∀ k, pv_muC q k = false := by
  intro q hq k
  have h : ∀ q ∈ pv_l3, (q == 78) = false := by decide +kernel
  unfold pv_muC
  rw [h q hq]
  rfl
theorem hl3_0_1 : ∀ q ∈ pv_l3, hC_fin q 1 = ((q + 1 : Nat) : Int) := by decide +kernel
theorem hl3_0_2 : ∀ q ∈ pv_l3, hC_fin q 2 = ((q + 2 : Nat) : Int) := by decide +kernel
theorem hl3_0_3 : ∀ q ∈ pv_l3, hC_fin q 3 = ((q + 3 : Nat) : Int) := by decide +kernel
theorem hl3_0_4 : ∀ q ∈ pv_l3, hC_fin q 4 = ((q + 4 : Nat) : Int) := by decide +kernel
theorem sl3_1 : ∀ q ∈ pv_l3, pv_SC[q + 1]? = some (1, 9) := by decide +kernel
theorem mu3_1 : ∀ q ∈ pv_l3, ∀ k, pv_muC (q + 1) k = false := by
  intro q hq k
  have h : ∀ q ∈ pv_l3, ((q + 1) == 78) = false := by decide +kernel
  unfold pv_muC
  rw [h q hq]
  rfl
theorem sl3_2 : ∀ q ∈ pv_l3, pv_SC[q + 2]? = some (1, 400) := by decide +kernel
theorem mu3_2 : ∀ q ∈ pv_l3, ∀ k, pv_muC (q + 2) k = false := by
  intro q hq k
  have h : ∀ q ∈ pv_l3, ((q + 2) == 78) = false := by decide +kernel
  unfold pv_muC
  rw [h q hq]
  rfl
theorem sl3_3 : ∀ q ∈ pv_l3, pv_SC[q + 3]? = some (1, 400) := by decide +kernel
theorem mu3_3 : ∀ q ∈ pv_l3, ∀ k, pv_muC (q + 3) k = false := by
  intro q hq k
  have h : ∀ q ∈ pv_l3, ((q + 3) == 78) = false := by decide +kernel
  unfold pv_muC
  rw [h q hq]
  rfl
theorem sl3_4 : ∀ q ∈ pv_l3, pv_SC[q + 4]? = some (1, 401) := by decide +kernel
theorem mu3_4 : ∀ q ∈ pv_l3, ∀ k, pv_muC (q + 4) k = false := by
  intro q hq k
  have h : ∀ q ∈ pv_l3, ((q + 4) == 78) = false := by decide +kernel
  unfold pv_muC
  rw [h q hq]
  rfl
theorem lt3 : ∀ q ∈ pv_l3, q < pv_SC.length := by decide +kernel
theorem sl5_0 : ∀ q ∈ pv_l5, pv_SC[q]? = some (0, 5) := by decide +kernel
theorem mu5_0 : ∀ q ∈ pv_l5, ∀ k, pv_muC q k = false := by
  intro q hq k
  have h : ∀ q ∈ pv_l5, (q == 78) = false := by decide +kernel
  unfold pv_muC
  rw [h q hq]
  rfl
theorem hl5_0_2 : ∀ q ∈ pv_l5, hC_fin q 2 = ((q + 1 : Nat) : Int) := by decide +kernel
theorem hl5_0_3 : ∀ q ∈ pv_l5, hC_fin q 3 = ((q + 2 : Nat) : Int) := by decide +kernel
theorem hl5_0_4 : ∀ q ∈ pv_l5, hC_fin q 4 = ((q + 3 : Nat) : Int) := by decide +kernel
theorem hl5_0_5 : ∀ q ∈ pv_l5, hC_fin q 5 = ((q + 4 : Nat) : Int) := by decide +kernel
theorem hl5_0_6 : ∀ q ∈ pv_l5, hC_fin q 6 = ((q + 5 : Nat) : Int) := by decide +kernel
theorem sl5_1 : ∀ q ∈ pv_l5, pv_SC[q + 1]? = some (1, 60) := by decide +kernel
theorem mu5_1 : ∀ q ∈ pv_l5, ∀ k, pv_muC (q + 1) k = false := by
  intro q hq k
  have h : ∀ q ∈ pv_l5, ((q + 1) == 78) = false := by decide +kernel
  unfold pv_muC
  rw [h q hq]
  rfl
theorem sl5_2 : ∀ q ∈ pv_l5, pv_SC[q + 2]? = some (1, 60) := by decide +kernel
theorem mu5_2 : ∀ q ∈ pv_l5, ∀ k, pv_muC (q + 2) k = false := by
  intro q hq k
  have h : ∀ q ∈ pv_l5, ((q + 2) == 78) = false := by decide +kernel
  unfold pv_muC
  rw [h q hq]
  rfl
theorem sl5_3 : ∀ q ∈ pv_l5, pv_SC[q + 3]? = some (1, 60) := by decide +kernel
theorem mu5_3 : ∀ q ∈ pv_l5, ∀ k, pv_muC (q + 3) k = false := by
  intro q hq k
  have h : ∀ q ∈ pv_l5, ((q + 3) == 78) = false := by decide +kernel
  unfold pv_muC
  rw [h q hq]
  rfl
theorem sl5_4 : ∀ q ∈ pv_l5, pv_SC[q + 4]? = some (1, 60) := by decide +kernel
theorem mu5_4 : ∀ q ∈ pv_l5, ∀ k, pv_muC (q + 4) k = false := by
  intro q hq k
  have h : ∀ q ∈ pv_l5, ((q + 4) == 78) = false := by decide +kernel
  unfold pv_muC
  rw [h q hq]
  rfl
theorem sl5_5 : ∀ q ∈ pv_l5, pv_SC[q + 5]? = some (1, 60) := by decide +kernel
theorem mu5_5 : ∀ q ∈ pv_l5, ∀ k, pv_muC (q + 5) k = false := by
  intro q hq k
  have h : ∀ q ∈ pv_l5, ((q + 5) == 78) = false := by decide +kernel
  unfold pv_muC
  rw [h q hq]
  rfl
theorem lt5 : ∀ q ∈ pv_l5, q < pv_SC.length := by decide +kernel
theorem sl6_0 : ∀ q ∈ pv_l6, pv_SC[q]? = some (0, 6) := by decide +kernel
theorem mu6_0 : ∀ q ∈ pv_l6, ∀ k, pv_muC q k = false := by
  intro q hq k
  have h : ∀ q ∈ pv_l6, (q == 78) = false := by decide +kernel
  unfold pv_muC
  rw [h q hq]
  rfl
theorem hl6_0_2 : ∀ q ∈ pv_l6, hC_fin q 2 = ((q + 1 : Nat) : Int) := by decide +kernel
theorem sl6_1 : ∀ q ∈ pv_l6, pv_SC[q + 1]? = some (2, 60) := by decide +kernel
theorem mu6_1 : ∀ q ∈ pv_l6, ∀ k, pv_muC (q + 1) k = false := by
  intro q hq k
  have h : ∀ q ∈ pv_l6, ((q + 1) == 78) = false := by decide +kernel
  unfold pv_muC
  rw [h q hq]
  rfl
theorem lt6 : ∀ q ∈ pv_l6, q < pv_SC.length := by decide +kernel
theorem sl7_0 : ∀ q ∈ pv_l7, pv_SC[q]? = some (0, 7) := by decide +kernel
theorem mu7_0 : ∀ q ∈ pv_l7, ∀ k, pv_muC q k = false := by
  intro q hq k
  have h : ∀ q ∈ pv_l7, (q == 78) = false := by decide +kernel
  unfold pv_muC
  rw [h q hq]
  rfl
theorem hl7_0_1 : ∀ q ∈ pv_l7, hC_fin q 1 = ((q + 1 : Nat) : Int) := by decide +kernel
theorem hl7_0_2 : ∀ q ∈ pv_l7, hC_fin q 2 = ((q + 2 : Nat) : Int) := by decide +kernel
theorem hl7_0_3 : ∀ q ∈ pv_l7, hC_fin q 3 = ((q + 3 : Nat) : Int) := by decide +kernel
theorem hl7_0_4 : ∀ q ∈ pv_l7, hC_fin q 4 = ((q + 4 : Nat) : Int) := by decide +kernel
theorem sl7_1 : ∀ q ∈ pv_l7, pv_SC[q + 1]? = some (1, 8) := by decide +kernel
theorem mu7_1 : ∀ q ∈ pv_l7, ∀ k, pv_muC (q + 1) k = false := by
  intro q hq k
  have h : ∀ q ∈ pv_l7, ((q + 1) == 78) = false := by decide +kernel
  unfold pv_muC
  rw [h q hq]
  rfl
theorem sl7_2 : ∀ q ∈ pv_l7, pv_SC[q + 2]? = some (1, 240) := by decide +kernel
theorem mu7_2 : ∀ q ∈ pv_l7, ∀ k, pv_muC (q + 2) k = false := by
  intro q hq k
  have h : ∀ q ∈ pv_l7, ((q + 2) == 78) = false := by decide +kernel
  unfold pv_muC
  rw [h q hq]
  rfl
theorem sl7_3 : ∀ q ∈ pv_l7, pv_SC[q + 3]? = some (1, 1200) := by decide +kernel
theorem mu7_3 : ∀ q ∈ pv_l7, ∀ k, pv_muC (q + 3) k = false := by
  intro q hq k
  have h : ∀ q ∈ pv_l7, ((q + 3) == 78) = false := by decide +kernel
  unfold pv_muC
  rw [h q hq]
  rfl
theorem sl7_4 : ∀ q ∈ pv_l7, pv_SC[q + 4]? = some (1, 60) := by decide +kernel
theorem mu7_4 : ∀ q ∈ pv_l7, ∀ k, pv_muC (q + 4) k = false := by
  intro q hq k
  have h : ∀ q ∈ pv_l7, ((q + 4) == 78) = false := by decide +kernel
  unfold pv_muC
  rw [h q hq]
  rfl
theorem lt7 : ∀ q ∈ pv_l7, q < pv_SC.length := by decide +kernel
theorem sl8_0 : ∀ q ∈ pv_l8, pv_SC[q]? = some (0, 8) := by decide +kernel
theorem mu8_0 : ∀ q ∈ pv_l8, ∀ k, pv_muC q k = false := by
  intro q hq k
  have h : ∀ q ∈ pv_l8, (q == 78) = false := by decide +kernel
  unfold pv_muC
  rw [h q hq]
  rfl
theorem hl8_0_2 : ∀ q ∈ pv_l8, hC_fin q 2 = ((q + 1 : Nat) : Int) := by decide +kernel
theorem hl8_0_3 : ∀ q ∈ pv_l8, hC_fin q 3 = ((q + 2 : Nat) : Int) := by decide +kernel
theorem hl8_0_4 : ∀ q ∈ pv_l8, hC_fin q 4 = ((q + 3 : Nat) : Int) := by decide +kernel
theorem hl8_0_5 : ∀ q ∈ pv_l8, hC_fin q 5 = ((q + 5 : Nat) : Int) := by decide +kernel
theorem hl8_0_6 : ∀ q ∈ pv_l8, hC_fin q 6 = ((q + 10 : Nat) : Int) := by decide +kernel
theorem sl8_1 : ∀ q ∈ pv_l8, pv_SC[q + 1]? = some (5, 4) := by decide +kernel
theorem mu8_1 : ∀ q ∈ pv_l8, ∀ k, pv_muC (q + 1) k = false := by
  intro q hq k
  have h : ∀ q ∈ pv_l8, ((q + 1) == 78) = false := by decide +kernel
  unfold pv_muC
  rw [h q hq]
  rfl
theorem hm8_1 : ∀ q ∈ pv_l8, ∀ k, k < 4 → hC_fin (q + 1) k = ((q + 15 + 6 * k : Nat) : Int) := by decide +kernel
theorem ml8_1 : ∀ q ∈ pv_l8, ∀ k, k < 4 → q + 15 + 6 * k ∈ pv_l5 := by decide +kernel
theorem sl8_2 : ∀ q ∈ pv_l8, pv_SC[q + 2]? = some (6, 4) := by decide +kernel
theorem mu8_2 : ∀ q ∈ pv_l8, ∀ k, pv_muC (q + 2) k = false := by
  intro q hq k
  have h : ∀ q ∈ pv_l8, ((q + 2) == 78) = false := by decide +kernel
  unfold pv_muC
  rw [h q hq]
  rfl
theorem hm8_2 : ∀ q ∈ pv_l8, ∀ k, k < 4 → hC_fin (q + 2) k = ((q + 39 + 4 * k : Nat) : Int) := by decide +kernel
theorem ml8_2 : ∀ q ∈ pv_l8, ∀ k, k < 4 → q + 39 + 4 * k ∈ pv_l0 := by decide +kernel
theorem sl8_3 : ∀ q ∈ pv_l8, pv_SC[q + 3]? = some (0, 2) := by decide +kernel
theorem mu8_3 : ∀ q ∈ pv_l8, ∀ k, pv_muC (q + 3) k = false := by
  intro q hq k
  have h : ∀ q ∈ pv_l8, ((q + 3) == 78) = false := by decide +kernel
  unfold pv_muC
  rw [h q hq]
  rfl
theorem mb8_3 : ∀ q ∈ pv_l8, q + 3 ∈ pv_l2 := by decide +kernel
theorem hl8_3_1 : ∀ q ∈ pv_l8, hC_fin (q + 3) 1 = ((q + 4 : Nat) : Int) := by decide +kernel
theorem sl8_4 : ∀ q ∈ pv_l8, pv_SC[q + 4]? = some (1, 8) := by decide +kernel
theorem mu8_4 : ∀ q ∈ pv_l8, ∀ k, pv_muC (q + 4) k = false := by
  intro q hq k
  have h : ∀ q ∈ pv_l8, ((q + 4) == 78) = false := by decide +kernel
  unfold pv_muC
  rw [h q hq]
  rfl
theorem sl8_5 : ∀ q ∈ pv_l8, pv_SC[q + 5]? = some (0, 3) := by decide +kernel
theorem mu8_5 : ∀ q ∈ pv_l8, ∀ k, pv_muC (q + 5) k = false := by
  intro q hq k
  have h : ∀ q ∈ pv_l8, ((q + 5) == 78) = false := by decide +kernel
  unfold pv_muC
  rw [h q hq]
  rfl
theorem mb8_5 : ∀ q ∈ pv_l8, q + 5 ∈ pv_l3 := by decide +kernel
theorem hl8_5_1 : ∀ q ∈ pv_l8, hC_fin (q + 5) 1 = ((q + 6 : Nat) : Int) := by decide +kernel
theorem hl8_5_2 : ∀ q ∈ pv_l8, hC_fin (q + 5) 2 = ((q + 7 : Nat) : Int) := by decide +kernel
theorem hl8_5_3 : ∀ q ∈ pv_l8, hC_fin (q + 5) 3 = ((q + 8 : Nat) : Int) := by decide +kernel
theorem hl8_5_4 : ∀ q ∈ pv_l8, hC_fin (q + 5) 4 = ((q + 9 : Nat) : Int) := by decide +kernel
theorem sl8_6 : ∀ q ∈ pv_l8, pv_SC[q + 6]? = some (1, 9) := by decide +kernel
theorem mu8_6 : ∀ q ∈ pv_l8, ∀ k, pv_muC (q + 6) k = false := by
  intro q hq k
  have h : ∀ q ∈ pv_l8, ((q + 6) == 78) = false := by decide +kernel
  unfold pv_muC
  rw [h q hq]
  rfl
theorem sl8_7 : ∀ q ∈ pv_l8, pv_SC[q + 7]? = some (1, 400) := by decide +kernel
theorem mu8_7 : ∀ q ∈ pv_l8, ∀ k, pv_muC (q + 7) k = false := by
  intro q hq k
  have h : ∀ q ∈ pv_l8, ((q + 7) == 78) = false := by decide +kernel
  unfold pv_muC
  rw [h q hq]
  rfl
theorem sl8_8 : ∀ q ∈ pv_l8, pv_SC[q + 8]? = some (1, 400) := by decide +kernel
theorem mu8_8 : ∀ q ∈ pv_l8, ∀ k, pv_muC (q + 8) k = false := by
  intro q hq k
  have h : ∀ q ∈ pv_l8, ((q + 8) == 78) = false := by decide +kernel
  unfold pv_muC
  rw [h q hq]
  rfl
theorem sl8_9 : ∀ q ∈ pv_l8, pv_SC[q + 9]? = some (1, 401) := by decide +kernel
theorem mu8_9 : ∀ q ∈ pv_l8, ∀ k, pv_muC (q + 9) k = false := by
  intro q hq k
  have h : ∀ q ∈ pv_l8, ((q + 9) == 78) = false := by decide +kernel
  unfold pv_muC
  rw [h q hq]
  rfl
theorem sl8_10 : ∀ q ∈ pv_l8, pv_SC[q + 10]? = some (0, 7) := by decide +kernel
theorem mu8_10 : ∀ q ∈ pv_l8, ∀ k, pv_muC (q + 10) k = false := by
  intro q hq k
  have h : ∀ q ∈ pv_l8, ((q + 10) == 78) = false := by decide +kernel
  unfold pv_muC
  rw [h q hq]
  rfl
theorem mb8_10 : ∀ q ∈ pv_l8, q + 10 ∈ pv_l7 := by decide +kernel
theorem hl8_10_1 : ∀ q ∈ pv_l8, hC_fin (q + 10) 1 = ((q + 11 : Nat) : Int) := by decide +kernel
theorem hl8_10_2 : ∀ q ∈ pv_l8, hC_fin (q + 10) 2 = ((q + 12 : Nat) : Int) := by decide +kernel
theorem hl8_10_3 : ∀ q ∈ pv_l8, hC_fin (q + 10) 3 = ((q + 13 : Nat) : Int) := by decide +kernel
theorem hl8_10_4 : ∀ q ∈ pv_l8, hC_fin (q + 10) 4 = ((q + 14 : Nat) : Int) := by decide +kernel
theorem sl8_11 : ∀ q ∈ pv_l8, pv_SC[q + 11]? = some (1, 8) := by decide +kernel
theorem mu8_11 : ∀ q ∈ pv_l8, ∀ k, pv_muC (q + 11) k = false := by
  intro q hq k
  have h : ∀ q ∈ pv_l8, ((q + 11) == 78) = false := by decide +kernel
  unfold pv_muC
  rw [h q hq]
  rfl
theorem sl8_12 : ∀ q ∈ pv_l8, pv_SC[q + 12]? = some (1, 240) := by decide +kernel
theorem mu8_12 : ∀ q ∈ pv_l8, ∀ k, pv_muC (q + 12) k = false := by
  intro q hq k
  have h : ∀ q ∈ pv_l8, ((q + 12) == 78) = false := by decide +kernel
  unfold pv_muC
  rw [h q hq]
  rfl
theorem sl8_13 : ∀ q ∈ pv_l8, pv_SC[q + 13]? = some (1, 1200) := by decide +kernel
theorem mu8_13 : ∀ q ∈ pv_l8, ∀ k, pv_muC (q + 13) k = false := by
  intro q hq k
  have h : ∀ q ∈ pv_l8, ((q + 13) == 78) = false := by decide +kernel
  unfold pv_muC
  rw [h q hq]
  rfl
theorem sl8_14 : ∀ q ∈ pv_l8, pv_SC[q + 14]? = some (1, 60) := by decide +kernel
theorem mu8_14 : ∀ q ∈ pv_l8, ∀ k, pv_muC (q + 14) k = false := by
  intro q hq k
  have h : ∀ q ∈ pv_l8, ((q + 14) == 78) = false := by decide +kernel
  unfold pv_muC
  rw [h q hq]
  rfl
theorem lt8 : ∀ q ∈ pv_l8, q < pv_SC.length := by decide +kernel
theorem hq_21 : ∀ k, k < 4 → hC_fin 21 k = ((35 + 6 * k : Nat) : Int) := by decide +kernel
theorem mq_21 : ∀ k, k < 4 → 35 + 6 * k ∈ pv_l5 := by decide +kernel
theorem hq_22 : ∀ k, k < 4 → hC_fin 22 k = ((59 + 4 * k : Nat) : Int) := by decide +kernel
theorem mq_22 : ∀ k, k < 4 → 59 + 4 * k ∈ pv_l0 := by decide +kernel
theorem hq_75 : ∀ k, k < 2 → hC_fin 75 k = ((106 + 55 * k : Nat) : Int) := by decide +kernel
theorem mq_75 : ∀ k, k < 2 → 106 + 55 * k ∈ pv_l8 := by decide +kernel
theorem hq_76 : ∀ k, k < 4 → hC_fin 76 k = ((216 + 2 * k : Nat) : Int) := by decide +kernel
theorem mq_76 : ∀ k, k < 4 → 216 + 2 * k ∈ pv_l6 := by decide +kernel
theorem hq_107 : ∀ k, k < 4 → hC_fin 107 k = ((121 + 6 * k : Nat) : Int) := by decide +kernel
theorem mq_107 : ∀ k, k < 4 → 121 + 6 * k ∈ pv_l5 := by decide +kernel
theorem hq_108 : ∀ k, k < 4 → hC_fin 108 k = ((145 + 4 * k : Nat) : Int) := by decide +kernel
theorem mq_108 : ∀ k, k < 4 → 145 + 4 * k ∈ pv_l0 := by decide +kernel
theorem hq_162 : ∀ k, k < 4 → hC_fin 162 k = ((176 + 6 * k : Nat) : Int) := by decide +kernel
theorem mq_162 : ∀ k, k < 4 → 176 + 6 * k ∈ pv_l5 := by decide +kernel
theorem hq_163 : ∀ k, k < 4 → hC_fin 163 k = ((200 + 4 * k : Nat) : Int) := by decide +kernel
theorem mq_163 : ∀ k, k < 4 → 200 + 4 * k ∈ pv_l0 := by decide +kernel
theorem hcl_224 : ∀ j, j < 204 → hC_fin 224 j = (pv_tx 0).getD j 0 := by decide +kernel
