/-! links of fields and methods, by their places in the tables -/
theorem fl_5_36 : pv_FL RX5 36 5 0 := ⟨by decide, by decide, pv_mem (pv_m1 (i := 39) rfl) rfl⟩
theorem fl_8_66 : pv_FL RX8 66 5 0 := ⟨by decide, by decide, pv_mem (pv_m1 (i := 40) rfl) rfl⟩
theorem fl_1_84 : pv_FL RX1 84 5 0 := ⟨by decide, by decide, pv_mem (pv_m1 (i := 41) rfl) rfl⟩
theorem fl_9_144 : pv_FL RX9 144 5 0 := ⟨by decide, by decide, pv_mem (pv_m1 (i := 42) rfl) rfl⟩
theorem fl_4_135 : pv_FL RX4 135 5 0 := ⟨by decide, by decide, pv_mem (pv_m1 (i := 43) rfl) rfl⟩
theorem fl_5_40 : pv_FL RX5 40 5 1 := ⟨by decide, by decide, pv_mem (pv_m1 (i := 44) rfl) rfl⟩
theorem fl_9_147 : pv_FL RX9 147 5 1 := ⟨by decide, by decide, pv_mem (pv_m1 (i := 45) rfl) rfl⟩
theorem fl_4_128 : pv_FL RX4 128 5 1 := ⟨by decide, by decide, pv_mem (pv_m1 (i := 46) rfl) rfl⟩
theorem fl_5_9 : pv_FL RX5 9 5 2 := ⟨by decide, by decide, pv_mem (pv_m1 (i := 47) rfl) rfl⟩
theorem fl_1_96 : pv_FL RX1 96 5 2 := ⟨by decide, by decide, pv_mem (pv_m1 (i := 48) rfl) rfl⟩
theorem fl_9_153 : pv_FL RX9 153 5 2 := ⟨by decide, by decide, pv_mem (pv_m1 (i := 49) rfl) rfl⟩
theorem fl_5_15 : pv_FL RX5 15 5 3 := ⟨by decide, by decide, pv_mem (pv_m1 (i := 50) rfl) rfl⟩
theorem fl_9_156 : pv_FL RX9 156 5 3 := ⟨by decide, by decide, pv_mem (pv_m1 (i := 51) rfl) rfl⟩
theorem fl_1_176 : pv_FL RX1 176 5 3 := ⟨by decide, by decide, pv_mem (pv_m1 (i := 52) rfl) rfl⟩
theorem fl_5_18 : pv_FL RX5 18 5 4 := ⟨by decide, by decide, pv_mem (pv_m1 (i := 53) rfl) rfl⟩
theorem fl_9_159 : pv_FL RX9 159 5 4 := ⟨by decide, by decide, pv_mem (pv_m1 (i := 54) rfl) rfl⟩
theorem fl_5_21 : pv_FL RX5 21 5 5 := ⟨by decide, by decide, pv_mem (pv_m1 (i := 55) rfl) rfl⟩
theorem fl_9_162 : pv_FL RX9 162 5 5 := ⟨by decide, by decide, pv_mem (pv_m1 (i := 56) rfl) rfl⟩
theorem fl_1_194 : pv_FL RX1 194 5 5 := ⟨by decide, by decide, pv_mem (pv_m1 (i := 57) rfl) rfl⟩
theorem fl_5_24 : pv_FL RX5 24 5 6 := ⟨by decide, by decide, pv_mem (pv_m1 (i := 58) rfl) rfl⟩
theorem fl_1_93 : pv_FL RX1 93 5 6 := ⟨by decide, by decide, pv_mem (pv_m1 (i := 59) rfl) rfl⟩
theorem fl_9_165 : pv_FL RX9 165 5 6 := ⟨by decide, by decide, pv_mem (pv_m1 (i := 60) rfl) rfl⟩
theorem fl_0_21 : pv_FL RX0 21 0 0 := ⟨by decide, by decide, pv_mem (pv_m1 (i := 83) rfl) rfl⟩
theorem fl_4_142 : pv_FL RX4 142 0 0 := ⟨by decide, by decide, pv_mem (pv_m1 (i := 84) rfl) rfl⟩
theorem fl_9_331 : pv_FL RX9 331 0 0 := ⟨by decide, by decide, pv_mem (pv_m1 (i := 85) rfl) rfl⟩
theorem fl_0_9 : pv_FL RX0 9 0 1 := ⟨by decide, by decide, pv_mem (pv_m1 (i := 86) rfl) rfl⟩
theorem fl_0_15 : pv_FL RX0 15 0 2 := ⟨by decide, by decide, pv_mem (pv_m1 (i := 87) rfl) rfl⟩
theorem fl_0_18 : pv_FL RX0 18 0 3 := ⟨by decide, by decide, pv_mem (pv_m1 (i := 88) rfl) rfl⟩
theorem fl_2_18 : pv_FL RX2 18 2 0 := ⟨by decide, by decide, pv_mem (pv_m1 (i := 113) rfl) rfl⟩
theorem fl_4_153 : pv_FL RX4 153 2 0 := ⟨by decide, by decide, pv_mem (pv_m1 (i := 114) rfl) rfl⟩
theorem fl_9_330 : pv_FL RX9 330 2 0 := ⟨by decide, by decide, pv_mem (pv_m1 (i := 115) rfl) rfl⟩
theorem fl_2_9 : pv_FL RX2 9 2 1 := ⟨by decide, by decide, pv_mem (pv_m1 (i := 116) rfl) rfl⟩
theorem fl_1_66 : pv_FL RX1 66 2 1 := ⟨by decide, by decide, pv_mem (pv_m1 (i := 117) rfl) rfl⟩
theorem fl_4_157 : pv_FL RX4 157 2 1 := ⟨by decide, by decide, pv_mem (pv_m1 (i := 118) rfl) rfl⟩
theorem fl_9_327 : pv_FL RX9 327 2 1 := ⟨by decide, by decide, pv_mem (pv_m1 (i := 119) rfl) rfl⟩
theorem fl_3_24 : pv_FL RX3 24 3 0 := ⟨by decide, by decide, pv_mem (pv_m1 (i := 131) rfl) rfl⟩
theorem fl_4_167 : pv_FL RX4 167 3 0 := ⟨by decide, by decide, pv_mem (pv_m1 (i := 132) rfl) rfl⟩
theorem fl_9_297 : pv_FL RX9 297 3 0 := ⟨by decide, by decide, pv_mem (pv_m1 (i := 133) rfl) rfl⟩
theorem fl_3_9 : pv_FL RX3 9 3 1 := ⟨by decide, by decide, pv_mem (pv_m1 (i := 134) rfl) rfl⟩
theorem fl_4_161 : pv_FL RX4 161 3 1 := ⟨by decide, by decide, pv_mem (pv_m1 (i := 135) rfl) rfl⟩
theorem fl_3_15 : pv_FL RX3 15 3 2 := ⟨by decide, by decide, pv_mem (pv_m1 (i := 136) rfl) rfl⟩
theorem fl_3_18 : pv_FL RX3 18 3 3 := ⟨by decide, by decide, pv_mem (pv_m1 (i := 137) rfl) rfl⟩
theorem fl_3_21 : pv_FL RX3 21 3 4 := ⟨by decide, by decide, pv_mem (pv_m1 (i := 138) rfl) rfl⟩
theorem fl_9_55 : pv_FL RX9 55 4 0 := ⟨by decide, by decide, pv_mem (pv_m1 (i := 196) rfl) rfl⟩
theorem fl_4_59 : pv_FL RX4 59 4 0 := ⟨by decide, by decide, pv_mem (pv_m1 (i := 197) rfl) rfl⟩
theorem fl_4_74 : pv_FL RX4 74 4 1 := ⟨by decide, by decide, pv_mem (pv_m1 (i := 198) rfl) rfl⟩
theorem fl_9_87 : pv_FL RX9 87 4 1 := ⟨by decide, by decide, pv_mem (pv_m1 (i := 199) rfl) rfl⟩
theorem fl_4_9 : pv_FL RX4 9 4 2 := ⟨by decide, by decide, pv_mem (pv_m1 (i := 200) rfl) rfl⟩
theorem fl_9_137 : pv_FL RX9 137 4 2 := ⟨by decide, by decide, pv_mem (pv_m1 (i := 201) rfl) rfl⟩
theorem fl_4_18 : pv_FL RX4 18 4 3 := ⟨by decide, by decide, pv_mem (pv_m1 (i := 202) rfl) rfl⟩
theorem fl_9_98 : pv_FL RX9 98 4 3 := ⟨by decide, by decide, pv_mem (pv_m1 (i := 203) rfl) rfl⟩
theorem fl_4_25 : pv_FL RX4 25 4 4 := ⟨by decide, by decide, pv_mem (pv_m1 (i := 204) rfl) rfl⟩
theorem fl_9_109 : pv_FL RX9 109 4 4 := ⟨by decide, by decide, pv_mem (pv_m1 (i := 205) rfl) rfl⟩
theorem fl_4_32 : pv_FL RX4 32 4 5 := ⟨by decide, by decide, pv_mem (pv_m1 (i := 206) rfl) rfl⟩
theorem fl_9_121 : pv_FL RX9 121 4 5 := ⟨by decide, by decide, pv_mem (pv_m1 (i := 207) rfl) rfl⟩
theorem fl_4_39 : pv_FL RX4 39 4 6 := ⟨by decide, by decide, pv_mem (pv_m1 (i := 208) rfl) rfl⟩
theorem fl_9_131 : pv_FL RX9 131 4 6 := ⟨by decide, by decide, pv_mem (pv_m1 (i := 209) rfl) rfl⟩
theorem fl_4_43 : pv_FL RX4 43 4 7 := ⟨by decide, by decide, pv_mem (pv_m1 (i := 210) rfl) rfl⟩
theorem fl_4_55 : pv_FL RX4 55 4 8 := ⟨by decide, by decide, pv_mem (pv_m1 (i := 211) rfl) rfl⟩
theorem fl_4_68 : pv_FL RX4 68 4 9 := ⟨by decide, by decide, pv_mem (pv_m1 (i := 212) rfl) rfl⟩
theorem fl_4_71 : pv_FL RX4 71 4 10 := ⟨by decide, by decide, pv_mem (pv_m1 (i := 213) rfl) rfl⟩
theorem fl_4_83 : pv_FL RX4 83 4 11 := ⟨by decide, by decide, pv_mem (pv_m1 (i := 214) rfl) rfl⟩
theorem fl_4_80 : pv_FL RX4 80 4 12 := ⟨by decide, by decide, pv_mem (pv_m1 (i := 215) rfl) rfl⟩
theorem fl_4_105 : pv_FL RX4 105 4 13 := ⟨by decide, by decide, pv_mem (pv_m1 (i := 216) rfl) rfl⟩
theorem fl_7_24 : pv_FL RX7 24 7 0 := ⟨by decide, by decide, pv_mem (pv_m2 (i := 28) rfl) rfl⟩
theorem fl_1_69 : pv_FL RX1 69 7 0 := ⟨by decide, by decide, pv_mem (pv_m2 (i := 29) rfl) rfl⟩
theorem fl_7_9 : pv_FL RX7 9 7 1 := ⟨by decide, by decide, pv_mem (pv_m2 (i := 30) rfl) rfl⟩
theorem fl_3_38 : pv_FL RX3 38 7 1 := ⟨by decide, by decide, pv_mem (pv_m2 (i := 31) rfl) rfl⟩
theorem fl_1_124 : pv_FL RX1 124 7 1 := ⟨by decide, by decide, pv_mem (pv_m2 (i := 32) rfl) rfl⟩
theorem fl_9_202 : pv_FL RX9 202 7 1 := ⟨by decide, by decide, pv_mem (pv_m2 (i := 33) rfl) rfl⟩
theorem fl_7_15 : pv_FL RX7 15 7 2 := ⟨by decide, by decide, pv_mem (pv_m2 (i := 34) rfl) rfl⟩
theorem fl_1_179 : pv_FL RX1 179 7 2 := ⟨by decide, by decide, pv_mem (pv_m2 (i := 35) rfl) rfl⟩
theorem fl_9_205 : pv_FL RX9 205 7 2 := ⟨by decide, by decide, pv_mem (pv_m2 (i := 36) rfl) rfl⟩
theorem fl_7_18 : pv_FL RX7 18 7 3 := ⟨by decide, by decide, pv_mem (pv_m2 (i := 37) rfl) rfl⟩
theorem fl_1_187 : pv_FL RX1 187 7 3 := ⟨by decide, by decide, pv_mem (pv_m2 (i := 38) rfl) rfl⟩
theorem fl_9_214 : pv_FL RX9 214 7 3 := ⟨by decide, by decide, pv_mem (pv_m2 (i := 39) rfl) rfl⟩
theorem fl_7_21 : pv_FL RX7 21 7 4 := ⟨by decide, by decide, pv_mem (pv_m2 (i := 40) rfl) rfl⟩
theorem fl_9_211 : pv_FL RX9 211 7 4 := ⟨by decide, by decide, pv_mem (pv_m2 (i := 41) rfl) rfl⟩
theorem fl_1_204 : pv_FL RX1 204 7 4 := ⟨by decide, by decide, pv_mem (pv_m2 (i := 42) rfl) rfl⟩
theorem fl_9_321 : pv_FL RX9 321 8 0 := ⟨by decide, by decide, pv_mem (pv_m2 (i := 56) rfl) rfl⟩
theorem fl_8_46 : pv_FL RX8 46 8 1 := ⟨by decide, by decide, pv_mem (pv_m2 (i := 57) rfl) rfl⟩
theorem fl_9_198 : pv_FL RX9 198 8 1 := ⟨by decide, by decide, pv_mem (pv_m2 (i := 58) rfl) rfl⟩
theorem fl_8_11 : pv_FL RX8 11 8 2 := ⟨by decide, by decide, pv_mem (pv_m2 (i := 59) rfl) rfl⟩
theorem fl_9_94 : pv_FL RX9 94 8 2 := ⟨by decide, by decide, pv_mem (pv_m2 (i := 60) rfl) rfl⟩
theorem fl_8_19 : pv_FL RX8 19 8 3 := ⟨by decide, by decide, pv_mem (pv_m2 (i := 61) rfl) rfl⟩
theorem fl_9_105 : pv_FL RX9 105 8 3 := ⟨by decide, by decide, pv_mem (pv_m2 (i := 62) rfl) rfl⟩
theorem fl_8_26 : pv_FL RX8 26 8 4 := ⟨by decide, by decide, pv_mem (pv_m2 (i := 63) rfl) rfl⟩
theorem fl_9_117 : pv_FL RX9 117 8 4 := ⟨by decide, by decide, pv_mem (pv_m2 (i := 64) rfl) rfl⟩
theorem fl_8_33 : pv_FL RX8 33 8 5 := ⟨by decide, by decide, pv_mem (pv_m2 (i := 65) rfl) rfl⟩
theorem fl_9_127 : pv_FL RX9 127 8 5 := ⟨by decide, by decide, pv_mem (pv_m2 (i := 66) rfl) rfl⟩
theorem fl_8_40 : pv_FL RX8 40 8 6 := ⟨by decide, by decide, pv_mem (pv_m2 (i := 67) rfl) rfl⟩
theorem fl_9_186 : pv_FL RX9 186 8 6 := ⟨by decide, by decide, pv_mem (pv_m2 (i := 68) rfl) rfl⟩
theorem fl_1_12 : pv_FL RX1 12 1 0 := ⟨by decide, by decide, pv_mem (pv_m2 (i := 99) rfl) rfl⟩
theorem fl_9_190 : pv_FL RX9 190 1 0 := ⟨by decide, by decide, pv_mem (pv_m2 (i := 100) rfl) rfl⟩
theorem fl_1_140 : pv_FL RX1 140 1 1 := ⟨by decide, by decide, pv_mem (pv_m2 (i := 101) rfl) rfl⟩
theorem fl_9_242 : pv_FL RX9 242 1 1 := ⟨by decide, by decide, pv_mem (pv_m2 (i := 102) rfl) rfl⟩
theorem fl_1_143 : pv_FL RX1 143 1 2 := ⟨by decide, by decide, pv_mem (pv_m2 (i := 103) rfl) rfl⟩
theorem fl_9_245 : pv_FL RX9 245 1 2 := ⟨by decide, by decide, pv_mem (pv_m2 (i := 104) rfl) rfl⟩
theorem fl_1_21 : pv_FL RX1 21 1 3 := ⟨by decide, by decide, pv_mem (pv_m2 (i := 105) rfl) rfl⟩
theorem fl_1_28 : pv_FL RX1 28 1 4 := ⟨by decide, by decide, pv_mem (pv_m2 (i := 106) rfl) rfl⟩
theorem fl_1_81 : pv_FL RX1 81 1 5 := ⟨by decide, by decide, pv_mem (pv_m2 (i := 107) rfl) rfl⟩
theorem fl_1_117 : pv_FL RX1 117 1 6 := ⟨by decide, by decide, pv_mem (pv_m2 (i := 108) rfl) rfl⟩
theorem fl_1_114 : pv_FL RX1 114 1 7 := ⟨by decide, by decide, pv_mem (pv_m2 (i := 109) rfl) rfl⟩
theorem fl_1_149 : pv_FL RX1 149 1 8 := ⟨by decide, by decide, pv_mem (pv_m2 (i := 110) rfl) rfl⟩
theorem fl_1_136 : pv_FL RX1 136 1 9 := ⟨by decide, by decide, pv_mem (pv_m2 (i := 111) rfl) rfl⟩
theorem fl_1_152 : pv_FL RX1 152 1 10 := ⟨by decide, by decide, pv_mem (pv_m2 (i := 112) rfl) rfl⟩
theorem fl_1_32 : pv_FL RX1 32 1 11 := ⟨by decide, by decide, pv_mem (pv_m2 (i := 113) rfl) rfl⟩
theorem fl_1_36 : pv_FL RX1 36 1 12 := ⟨by decide, by decide, pv_mem (pv_m2 (i := 114) rfl) rfl⟩
theorem fl_1_39 : pv_FL RX1 39 1 13 := ⟨by decide, by decide, pv_mem (pv_m2 (i := 115) rfl) rfl⟩
theorem fl_1_42 : pv_FL RX1 42 1 14 := ⟨by decide, by decide, pv_mem (pv_m2 (i := 116) rfl) rfl⟩
theorem fl_1_45 : pv_FL RX1 45 1 15 := ⟨by decide, by decide, pv_mem (pv_m2 (i := 117) rfl) rfl⟩
theorem fl_1_48 : pv_FL RX1 48 1 16 := ⟨by decide, by decide, pv_mem (pv_m2 (i := 118) rfl) rfl⟩
theorem fl_1_51 : pv_FL RX1 51 1 17 := ⟨by decide, by decide, pv_mem (pv_m2 (i := 119) rfl) rfl⟩
theorem fl_6_15 : pv_FL RX6 15 6 0 := ⟨by decide, by decide, pv_mem (pv_m2 (i := 164) rfl) rfl⟩
theorem fl_9_223 : pv_FL RX9 223 6 0 := ⟨by decide, by decide, pv_mem (pv_m2 (i := 165) rfl) rfl⟩
theorem fl_6_23 : pv_FL RX6 23 6 1 := ⟨by decide, by decide, pv_mem (pv_m2 (i := 166) rfl) rfl⟩
theorem fl_7_59 : pv_FL RX7 59 6 1 := ⟨by decide, by decide, pv_mem (pv_m2 (i := 167) rfl) rfl⟩
theorem fl_9_309 : pv_FL RX9 309 6 1 := ⟨by decide, by decide, pv_mem (pv_m2 (i := 168) rfl) rfl⟩
theorem fl_6_9 : pv_FL RX6 9 6 2 := ⟨by decide, by decide, pv_mem (pv_m2 (i := 169) rfl) rfl⟩
theorem fl_7_64 : pv_FL RX7 64 6 2 := ⟨by decide, by decide, pv_mem (pv_m2 (i := 170) rfl) rfl⟩
theorem fl_6_19 : pv_FL RX6 19 6 3 := ⟨by decide, by decide, pv_mem (pv_m2 (i := 171) rfl) rfl⟩
theorem fl_9_10 : pv_FL RX9 10 9 0 := ⟨by decide, by decide, pv_mem (pv_m2 (i := 182) rfl) rfl⟩
theorem fl_9_19 : pv_FL RX9 19 9 1 := ⟨by decide, by decide, pv_mem (pv_m2 (i := 183) rfl) rfl⟩
theorem fl_9_23 : pv_FL RX9 23 9 2 := ⟨by decide, by decide, pv_mem (pv_m2 (i := 184) rfl) rfl⟩
theorem fl_9_29 : pv_FL RX9 29 9 3 := ⟨by decide, by decide, pv_mem (pv_m2 (i := 185) rfl) rfl⟩
theorem fl_9_33 : pv_FL RX9 33 9 4 := ⟨by decide, by decide, pv_mem (pv_m2 (i := 186) rfl) rfl⟩
theorem fl_9_40 : pv_FL RX9 40 9 5 := ⟨by decide, by decide, pv_mem (pv_m2 (i := 187) rfl) rfl⟩
theorem fl_9_47 : pv_FL RX9 47 9 6 := ⟨by decide, by decide, pv_mem (pv_m2 (i := 188) rfl) rfl⟩
theorem fl_9_51 : pv_FL RX9 51 9 7 := ⟨by decide, by decide, pv_mem (pv_m2 (i := 189) rfl) rfl⟩
theorem fl_10_1 : pv_FL RX10 1 10 0 := ⟨by decide, by decide, pv_mem (pv_m5 (i := 77) rfl) rfl⟩
theorem fl_10_7 : pv_FL RX10 7 10 1 := ⟨by decide, by decide, pv_mem (pv_m5 (i := 78) rfl) rfl⟩
theorem fl_10_17 : pv_FL RX10 17 10 2 := ⟨by decide, by decide, pv_mem (pv_m5 (i := 79) rfl) rfl⟩
theorem fl_10_20 : pv_FL RX10 20 10 3 := ⟨by decide, by decide, pv_mem (pv_m5 (i := 80) rfl) rfl⟩
theorem fl_10_24 : pv_FL RX10 24 10 4 := ⟨by decide, by decide, pv_mem (pv_m5 (i := 81) rfl) rfl⟩
theorem fl_10_27 : pv_FL RX10 27 10 5 := ⟨by decide, by decide, pv_mem (pv_m5 (i := 82) rfl) rfl⟩
theorem fl_10_128 : pv_FL RX10 128 10 6 := ⟨by decide, by decide, pv_mem (pv_m5 (i := 83) rfl) rfl⟩
theorem fl_10_150 : pv_FL RX10 150 10 7 := ⟨by decide, by decide, pv_mem (pv_m5 (i := 84) rfl) rfl⟩
theorem fl_10_153 : pv_FL RX10 153 10 8 := ⟨by decide, by decide, pv_mem (pv_m5 (i := 85) rfl) rfl⟩
theorem fl_10_135 : pv_FL RX10 135 10 9 := ⟨by decide, by decide, pv_mem (pv_m5 (i := 86) rfl) rfl⟩
theorem fl_10_159 : pv_FL RX10 159 10 10 := ⟨by decide, by decide, pv_mem (pv_m5 (i := 87) rfl) rfl⟩
theorem fl_10_172 : pv_FL RX10 172 10 11 := ⟨by decide, by decide, pv_mem (pv_m5 (i := 88) rfl) rfl⟩
theorem fl_10_175 : pv_FL RX10 175 10 12 := ⟨by decide, by decide, pv_mem (pv_m5 (i := 89) rfl) rfl⟩
theorem fl_10_178 : pv_FL RX10 178 10 13 := ⟨by decide, by decide, pv_mem (pv_m5 (i := 90) rfl) rfl⟩
theorem fl_10_204 : pv_FL RX10 204 10 14 := ⟨by decide, by decide, pv_mem (pv_m5 (i := 91) rfl) rfl⟩
theorem fl_10_264 : pv_FL RX10 264 10 15 := ⟨by decide, by decide, pv_mem (pv_m5 (i := 92) rfl) rfl⟩
theorem fl_10_30 : pv_FL RX10 30 10 16 := ⟨by decide, by decide, pv_mem (pv_m5 (i := 93) rfl) rfl⟩
theorem fl_10_236 : pv_FL RX10 236 10 17 := ⟨by decide, by decide, pv_mem (pv_m5 (i := 94) rfl) rfl⟩
theorem fl_10_224 : pv_FL RX10 224 10 18 := ⟨by decide, by decide, pv_mem (pv_m5 (i := 95) rfl) rfl⟩
theorem fl_10_267 : pv_FL RX10 267 10 19 := ⟨by decide, by decide, pv_mem (pv_m5 (i := 96) rfl) rfl⟩
theorem fl_10_270 : pv_FL RX10 270 10 20 := ⟨by decide, by decide, pv_mem (pv_m5 (i := 97) rfl) rfl⟩
theorem fl_10_33 : pv_FL RX10 33 10 21 := ⟨by decide, by decide, pv_mem (pv_m5 (i := 98) rfl) rfl⟩
theorem fl_10_36 : pv_FL RX10 36 10 22 := ⟨by decide, by decide, pv_mem (pv_m5 (i := 99) rfl) rfl⟩
theorem fl_10_39 : pv_FL RX10 39 10 23 := ⟨by decide, by decide, pv_mem (pv_m5 (i := 100) rfl) rfl⟩
theorem fl_10_42 : pv_FL RX10 42 10 24 := ⟨by decide, by decide, pv_mem (pv_m5 (i := 101) rfl) rfl⟩
theorem fl_10_45 : pv_FL RX10 45 10 25 := ⟨by decide, by decide, pv_mem (pv_m5 (i := 102) rfl) rfl⟩
theorem fl_10_48 : pv_FL RX10 48 10 26 := ⟨by decide, by decide, pv_mem (pv_m5 (i := 103) rfl) rfl⟩
theorem fl_10_288 : pv_FL RX10 288 10 27 := ⟨by decide, by decide, pv_mem (pv_m5 (i := 104) rfl) rfl⟩
theorem fl_10_291 : pv_FL RX10 291 10 28 := ⟨by decide, by decide, pv_mem (pv_m5 (i := 105) rfl) rfl⟩
theorem fl_10_303 : pv_FL RX10 303 10 29 := ⟨by decide, by decide, pv_mem (pv_m5 (i := 106) rfl) rfl⟩
theorem fl_10_306 : pv_FL RX10 306 10 30 := ⟨by decide, by decide, pv_mem (pv_m5 (i := 107) rfl) rfl⟩
theorem fl_10_51 : pv_FL RX10 51 10 31 := ⟨by decide, by decide, pv_mem (pv_m5 (i := 108) rfl) rfl⟩
theorem fl_10_54 : pv_FL RX10 54 10 32 := ⟨by decide, by decide, pv_mem (pv_m5 (i := 109) rfl) rfl⟩
theorem fl_10_57 : pv_FL RX10 57 10 33 := ⟨by decide, by decide, pv_mem (pv_m5 (i := 110) rfl) rfl⟩
theorem fl_10_60 : pv_FL RX10 60 10 34 := ⟨by decide, by decide, pv_mem (pv_m5 (i := 111) rfl) rfl⟩
theorem fl_10_63 : pv_FL RX10 63 10 35 := ⟨by decide, by decide, pv_mem (pv_m5 (i := 112) rfl) rfl⟩
theorem fl_10_297 : pv_FL RX10 297 10 36 := ⟨by decide, by decide, pv_mem (pv_m5 (i := 113) rfl) rfl⟩
theorem fl_10_300 : pv_FL RX10 300 10 37 := ⟨by decide, by decide, pv_mem (pv_m5 (i := 114) rfl) rfl⟩
theorem fl_10_328 : pv_FL RX10 328 10 38 := ⟨by decide, by decide, pv_mem (pv_m5 (i := 115) rfl) rfl⟩
theorem fl_10_325 : pv_FL RX10 325 10 39 := ⟨by decide, by decide, pv_mem (pv_m5 (i := 116) rfl) rfl⟩
theorem fl_10_356 : pv_FL RX10 356 10 40 := ⟨by decide, by decide, pv_mem (pv_m5 (i := 117) rfl) rfl⟩
theorem fl_10_368 : pv_FL RX10 368 10 41 := ⟨by decide, by decide, pv_mem (pv_m5 (i := 118) rfl) rfl⟩
theorem fl_10_390 : pv_FL RX10 390 10 42 := ⟨by decide, by decide, pv_mem (pv_m5 (i := 119) rfl) rfl⟩
theorem fl_10_346 : pv_FL RX10 346 10 43 := ⟨by decide, by decide, pv_mem (pv_m5 (i := 120) rfl) rfl⟩
theorem fl_10_66 : pv_FL RX10 66 10 44 := ⟨by decide, by decide, pv_mem (pv_m5 (i := 121) rfl) rfl⟩
theorem fl_10_69 : pv_FL RX10 69 10 45 := ⟨by decide, by decide, pv_mem (pv_m5 (i := 122) rfl) rfl⟩
theorem fl_10_72 : pv_FL RX10 72 10 46 := ⟨by decide, by decide, pv_mem (pv_m5 (i := 123) rfl) rfl⟩
theorem fl_10_75 : pv_FL RX10 75 10 47 := ⟨by decide, by decide, pv_mem (pv_m5 (i := 124) rfl) rfl⟩
theorem fl_10_78 : pv_FL RX10 78 10 48 := ⟨by decide, by decide, pv_mem (pv_m5 (i := 125) rfl) rfl⟩
theorem fl_10_81 : pv_FL RX10 81 10 49 := ⟨by decide, by decide, pv_mem (pv_m5 (i := 126) rfl) rfl⟩
theorem fl_10_84 : pv_FL RX10 84 10 50 := ⟨by decide, by decide, pv_mem (pv_m5 (i := 127) rfl) rfl⟩
theorem fl_10_87 : pv_FL RX10 87 10 51 := ⟨by decide, by decide, pv_mem (pv_m5 (i := 128) rfl) rfl⟩
theorem fl_10_90 : pv_FL RX10 90 10 52 := ⟨by decide, by decide, pv_mem (pv_m5 (i := 129) rfl) rfl⟩
theorem fl_10_93 : pv_FL RX10 93 10 53 := ⟨by decide, by decide, pv_mem (pv_m5 (i := 130) rfl) rfl⟩
theorem fl_10_96 : pv_FL RX10 96 10 54 := ⟨by decide, by decide, pv_mem (pv_m5 (i := 131) rfl) rfl⟩
theorem fl_10_99 : pv_FL RX10 99 10 55 := ⟨by decide, by decide, pv_mem (pv_m5 (i := 132) rfl) rfl⟩
theorem fl_10_102 : pv_FL RX10 102 10 56 := ⟨by decide, by decide, pv_mem (pv_m5 (i := 133) rfl) rfl⟩
theorem fl_10_105 : pv_FL RX10 105 10 57 := ⟨by decide, by decide, pv_mem (pv_m5 (i := 134) rfl) rfl⟩
theorem fl_10_108 : pv_FL RX10 108 10 58 := ⟨by decide, by decide, pv_mem (pv_m5 (i := 135) rfl) rfl⟩
theorem fl_10_362 : pv_FL RX10 362 10 59 := ⟨by decide, by decide, pv_mem (pv_m5 (i := 136) rfl) rfl⟩
theorem fl_10_359 : pv_FL RX10 359 10 60 := ⟨by decide, by decide, pv_mem (pv_m5 (i := 137) rfl) rfl⟩
theorem fl_10_365 : pv_FL RX10 365 10 61 := ⟨by decide, by decide, pv_mem (pv_m5 (i := 138) rfl) rfl⟩
theorem fl_10_111 : pv_FL RX10 111 10 62 := ⟨by decide, by decide, pv_mem (pv_m5 (i := 139) rfl) rfl⟩
theorem fl_10_114 : pv_FL RX10 114 10 63 := ⟨by decide, by decide, pv_mem (pv_m5 (i := 140) rfl) rfl⟩
theorem fl_10_117 : pv_FL RX10 117 10 64 := ⟨by decide, by decide, pv_mem (pv_m5 (i := 141) rfl) rfl⟩
theorem fl_10_120 : pv_FL RX10 120 10 65 := ⟨by decide, by decide, pv_mem (pv_m5 (i := 142) rfl) rfl⟩
theorem ml_L_9 : Cond.methodLink RL 9 yX9_init ∈ pv_W := pv_mem (pv_m1 (i := 21) rfl) rfl
theorem ml_X9_1 : Cond.methodLink RX9 1 Lib.objectInit ∈ pv_W := pv_mem (pv_m1 (i := 24) rfl) rfl
theorem ml_X4_3 : Cond.methodLink RX4 3 Lib.objectInit ∈ pv_W := pv_mem (pv_m1 (i := 32) rfl) rfl
theorem ml_X5_3 : Cond.methodLink RX5 3 Lib.objectInit ∈ pv_W := pv_mem (pv_m1 (i := 38) rfl) rfl
theorem ml_X0_3 : Cond.methodLink RX0 3 Lib.objectInit ∈ pv_W := pv_mem (pv_m1 (i := 82) rfl) rfl
theorem ml_X4_31 : Cond.methodLink RX4 31 yX2_init ∈ pv_W := pv_mem (pv_m1 (i := 100) rfl) rfl
theorem ml_X2_3 : Cond.methodLink RX2 3 Lib.objectInit ∈ pv_W := pv_mem (pv_m1 (i := 103) rfl) rfl
theorem ml_X2_15 : Cond.methodLink RX2 15 yX2_begin ∈ pv_W := pv_mem (pv_m1 (i := 104) rfl) rfl
theorem ml_X2_25 : Cond.methodLink RX2 25 arraycopyName ∈ pv_W := pv_mem (pv_m1 (i := 110) rfl) rfl
theorem ml_X3_3 : Cond.methodLink RX3 3 Lib.objectInit ∈ pv_W := pv_mem (pv_m1 (i := 130) rfl) rfl
theorem ml_X4_49 : Cond.methodLink RX4 49 yJ0_toCharArray_70df3 ∈ pv_W := pv_mem (pv_m1 (i := 151) rfl) rfl
theorem ml_J0_492 : Cond.methodLink RJ0 492 yJ0_isLatin1_aae02 ∈ pv_W := pv_mem (pv_m1 (i := 155) rfl) rfl
theorem ml_J0_299 : Cond.methodLink RJ0 299 yJ1_toChars_9d188 ∈ pv_W := pv_mem (pv_m1 (i := 161) rfl) rfl
theorem ml_J1_13 : Cond.methodLink RJ1 13 yJ1_inflate_03870 ∈ pv_W := pv_mem (pv_m1 (i := 164) rfl) rfl
theorem ml_J0_303 : Cond.methodLink RJ0 303 yJ2_toChars_9d188 ∈ pv_W := pv_mem (pv_m1 (i := 167) rfl) rfl
theorem ml_J2_103 : Cond.methodLink RJ2 103 yJ2_getChars_a1a8b ∈ pv_W := pv_mem (pv_m1 (i := 170) rfl) rfl
theorem ml_J2_173 : Cond.methodLink RJ2 173 yJ2_checkBoundsOffCount_d044e ∈ pv_W := pv_mem (pv_m1 (i := 173) rfl) rfl
theorem ml_J2_48 : Cond.methodLink RJ2 48 yJ2_length_9d52b ∈ pv_W := pv_mem (pv_m1 (i := 176) rfl) rfl
theorem ml_J2_419 : Cond.methodLink RJ2 419 yJ0_checkBoundsOffCount_cabcc ∈ pv_W := pv_mem (pv_m1 (i := 179) rfl) rfl
theorem ml_J0_1065 : Cond.methodLink RJ0 1065 yJ3_checkFromIndexSize_8c36e ∈ pv_W := pv_mem (pv_m1 (i := 184) rfl) rfl
theorem ml_J2_71 : Cond.methodLink RJ2 71 yJ2_getChar_3b067 ∈ pv_W := pv_mem (pv_m1 (i := 187) rfl) rfl
theorem ml_X9_18 : Cond.methodLink RX9 18 yX8_init ∈ pv_W := pv_mem (pv_m2 (i := 10) rfl) rfl
theorem ml_X8_3 : Cond.methodLink RX8 3 Lib.objectInit ∈ pv_W := pv_mem (pv_m2 (i := 13) rfl) rfl
theorem ml_X8_25 : Cond.methodLink RX8 25 yX2_init ∈ pv_W := pv_mem (pv_m2 (i := 19) rfl) rfl
theorem ml_X7_3 : Cond.methodLink RX7 3 Lib.objectInit ∈ pv_W := pv_mem (pv_m2 (i := 27) rfl) rfl
theorem ml_X1_3 : Cond.methodLink RX1 3 Lib.objectInit ∈ pv_W := pv_mem (pv_m2 (i := 92) rfl) rfl
theorem ml_X1_27 : Cond.methodLink RX1 27 yX2_init ∈ pv_W := pv_mem (pv_m2 (i := 98) rfl) rfl
theorem ml_X6_3 : Cond.methodLink RX6 3 Lib.objectInit ∈ pv_W := pv_mem (pv_m2 (i := 163) rfl) rfl
theorem ml_L_13 : Cond.methodLink RL 13 yX9_feed ∈ pv_W := pv_mem (pv_m2 (i := 207) rfl) rfl
theorem ml_X9_59 : Cond.methodLink RX9 59 yX9_refuse ∈ pv_W := pv_mem (pv_m2 (i := 211) rfl) rfl
theorem ml_X9_63 : Cond.methodLink RX9 63 yX4_put ∈ pv_W := pv_mem (pv_m2 (i := 215) rfl) rfl
theorem ml_L_18 : Cond.methodLink RL 18 yX9_text ∈ pv_W := pv_mem (pv_m2 (i := 219) rfl) rfl
theorem ml_X9_67 : Cond.methodLink RX9 67 yX9_isTextPlace ∈ pv_W := pv_mem (pv_m2 (i := 223) rfl) rfl
theorem ml_X9_71 : Cond.methodLink RX9 71 yX4_begin ∈ pv_W := pv_mem (pv_m2 (i := 226) rfl) rfl
theorem ml_X4_62 : Cond.methodLink RX4 62 Lib.Math.min.name ∈ pv_W := pv_mem (pv_m2 (i := 230) rfl) rfl
theorem ml_X4_77 : Cond.methodLink RX4 77 yX4_next ∈ pv_W := pv_mem (pv_m2 (i := 233) rfl) rfl
theorem ml_X4_86 : Cond.methodLink RX4 86 yX4_isLetter ∈ pv_W := pv_mem (pv_m2 (i := 237) rfl) rfl
theorem ml_X4_90 : Cond.methodLink RX4 90 yX4_wordFrom ∈ pv_W := pv_mem (pv_m3 (i := 1) rfl) rfl
theorem ml_X4_93 : Cond.methodLink RX4 93 yX4_isDigit ∈ pv_W := pv_mem (pv_m3 (i := 5) rfl) rfl
theorem ml_X4_96 : Cond.methodLink RX4 96 yX4_takeNumber ∈ pv_W := pv_mem (pv_m3 (i := 9) rfl) rfl
theorem ml_X4_99 : Cond.methodLink RX4 99 yX4_takeSign ∈ pv_W := pv_mem (pv_m3 (i := 13) rfl) rfl
theorem ml_X4_102 : Cond.methodLink RX4 102 yX4_fail ∈ pv_W := pv_mem (pv_m3 (i := 17) rfl) rfl
theorem ml_X9_74 : Cond.methodLink RX9 74 yX4_readRod ∈ pv_W := pv_mem (pv_m3 (i := 21) rfl) rfl
theorem ml_X4_108 : Cond.methodLink RX4 108 yX4_expect ∈ pv_W := pv_mem (pv_m3 (i := 25) rfl) rfl
theorem ml_X4_118 : Cond.methodLink RX4 118 yX4_numberWithin ∈ pv_W := pv_mem (pv_m3 (i := 33) rfl) rfl
theorem ml_X4_121 : Cond.methodLink RX4 121 yX5_begin ∈ pv_W := pv_mem (pv_m3 (i := 37) rfl) rfl
theorem ml_X5_27 : Cond.methodLink RX5 27 Lib.Math.max.name ∈ pv_W := pv_mem (pv_m3 (i := 41) rfl) rfl
theorem ml_X5_33 : Cond.methodLink RX5 33 Lib.Math.min.name ∈ pv_W := pv_mem (pv_m3 (i := 44) rfl) rfl
theorem ml_X4_125 : Cond.methodLink RX4 125 yX4_readRodLine ∈ pv_W := pv_mem (pv_m3 (i := 45) rfl) rfl
theorem ml_X4_131 : Cond.methodLink RX4 131 yX4_readSpans ∈ pv_W := pv_mem (pv_m3 (i := 49) rfl) rfl
theorem ml_X4_138 : Cond.methodLink RX4 138 yX5_tell ∈ pv_W := pv_mem (pv_m3 (i := 53) rfl) rfl
theorem ml_X9_78 : Cond.methodLink RX9 78 yX4_readDoings ∈ pv_W := pv_mem (pv_m3 (i := 57) rfl) rfl
theorem ml_X4_145 : Cond.methodLink RX4 145 yX4_readStep ∈ pv_W := pv_mem (pv_m3 (i := 61) rfl) rfl
theorem ml_X4_148 : Cond.methodLink RX4 148 yX0_tell ∈ pv_W := pv_mem (pv_m3 (i := 65) rfl) rfl
theorem ml_X9_81 : Cond.methodLink RX9 81 yX4_readLaw ∈ pv_W := pv_mem (pv_m3 (i := 69) rfl) rfl
theorem ml_X4_151 : Cond.methodLink RX4 151 yX2_begin ∈ pv_W := pv_mem (pv_m3 (i := 73) rfl) rfl
theorem ml_X4_154 : Cond.methodLink RX4 154 yX4_readLawLine ∈ pv_W := pv_mem (pv_m3 (i := 74) rfl) rfl
theorem ml_X9_84 : Cond.methodLink RX9 84 yX4_readLooks ∈ pv_W := pv_mem (pv_m3 (i := 78) rfl) rfl
theorem ml_X4_160 : Cond.methodLink RX4 160 yX3_begin ∈ pv_W := pv_mem (pv_m3 (i := 82) rfl) rfl
theorem ml_X4_164 : Cond.methodLink RX4 164 yX4_readAnyOf ∈ pv_W := pv_mem (pv_m3 (i := 86) rfl) rfl
theorem ml_X4_168 : Cond.methodLink RX4 168 yX4_readAllOf ∈ pv_W := pv_mem (pv_m3 (i := 90) rfl) rfl
theorem ml_X4_174 : Cond.methodLink RX4 174 yX4_readFact ∈ pv_W := pv_mem (pv_m3 (i := 94) rfl) rfl
theorem ml_X4_171 : Cond.methodLink RX4 171 yX3_tell ∈ pv_W := pv_mem (pv_m3 (i := 98) rfl) rfl
theorem ml_X9_90 : Cond.methodLink RX9 90 yX9_adoptText ∈ pv_W := pv_mem (pv_m3 (i := 102) rfl) rfl
theorem ml_X9_101 : Cond.methodLink RX9 101 yX5_copyFrom ∈ pv_W := pv_mem (pv_m3 (i := 106) rfl) rfl
theorem ml_X5_43 : Cond.methodLink RX5 43 arraycopyName ∈ pv_W := pv_mem (pv_m3 (i := 110) rfl) rfl
theorem ml_X9_112 : Cond.methodLink RX9 112 yX0_copyFrom ∈ pv_W := pv_mem (pv_m3 (i := 111) rfl) rfl
theorem ml_X0_25 : Cond.methodLink RX0 25 arraycopyName ∈ pv_W := pv_mem (pv_m3 (i := 115) rfl) rfl
theorem ml_X9_122 : Cond.methodLink RX9 122 yX2_copyFrom ∈ pv_W := pv_mem (pv_m3 (i := 116) rfl) rfl
theorem ml_X9_132 : Cond.methodLink RX9 132 yX3_copyFrom ∈ pv_W := pv_mem (pv_m3 (i := 120) rfl) rfl
theorem ml_X3_28 : Cond.methodLink RX3 28 arraycopyName ∈ pv_W := pv_mem (pv_m3 (i := 124) rfl) rfl
theorem ml_L_23 : Cond.methodLink RL 23 yX9_fault ∈ pv_W := pv_mem (pv_m3 (i := 125) rfl) rfl
theorem ml_L_28 : Cond.methodLink RL 28 yX9_rod ∈ pv_W := pv_mem (pv_m3 (i := 129) rfl) rfl
theorem ml_X9_140 : Cond.methodLink RX9 140 yX9_hasRod ∈ pv_W := pv_mem (pv_m3 (i := 133) rfl) rfl
theorem ml_L_33 : Cond.methodLink RL 33 yX9_cell ∈ pv_W := pv_mem (pv_m3 (i := 137) rfl) rfl
theorem ml_X9_150 : Cond.methodLink RX9 150 yX9_hasCell ∈ pv_W := pv_mem (pv_m3 (i := 141) rfl) rfl
theorem ml_L_37 : Cond.methodLink RL 37 yX9_strength ∈ pv_W := pv_mem (pv_m3 (i := 145) rfl) rfl
theorem ml_X9_168 : Cond.methodLink RX9 168 yX5_drawStrengths ∈ pv_W := pv_mem (pv_m3 (i := 149) rfl) rfl
theorem ml_L_41 : Cond.methodLink RL 41 yX9_bent ∈ pv_W := pv_mem (pv_m3 (i := 154) rfl) rfl
theorem ml_X9_172 : Cond.methodLink RX9 172 yX9_hasDoings ∈ pv_W := pv_mem (pv_m3 (i := 158) rfl) rfl
theorem ml_X9_175 : Cond.methodLink RX9 175 yX0_turnBehind ∈ pv_W := pv_mem (pv_m3 (i := 161) rfl) rfl
theorem ml_X0_37 : Cond.methodLink RX0 37 Lib.Math.min.name ∈ pv_W := pv_mem (pv_m3 (i := 165) rfl) rfl
theorem ml_X0_40 : Cond.methodLink RX0 40 yX0_byTick ∈ pv_W := pv_mem (pv_m3 (i := 166) rfl) rfl
theorem ml_X0_31 : Cond.methodLink RX0 31 Lib.Math.max.name ∈ pv_W := pv_mem (pv_m3 (i := 170) rfl) rfl
theorem ml_X9_179 : Cond.methodLink RX9 179 yX0_bendBehind ∈ pv_W := pv_mem (pv_m3 (i := 171) rfl) rfl
theorem ml_X0_43 : Cond.methodLink RX0 43 yX0_bendBehindStep ∈ pv_W := pv_mem (pv_m3 (i := 175) rfl) rfl
theorem ml_L_46 : Cond.methodLink RL 46 yX9_go ∈ pv_W := pv_mem (pv_m3 (i := 178) rfl) rfl
theorem ml_X9_182 : Cond.methodLink RX9 182 yX1_breakRod ∈ pv_W := pv_mem (pv_m3 (i := 182) rfl) rfl
theorem ml_X1_54 : Cond.methodLink RX1 54 yX1_take ∈ pv_W := pv_mem (pv_m3 (i := 186) rfl) rfl
theorem ml_X1_73 : Cond.methodLink RX1 73 yX5_drawStrengths ∈ pv_W := pv_mem (pv_m3 (i := 190) rfl) rfl
theorem ml_X1_77 : Cond.methodLink RX1 77 yX1_bendThatBreaks ∈ pv_W := pv_mem (pv_m3 (i := 191) rfl) rfl
theorem ml_X1_99 : Cond.methodLink RX1 99 Lib.Math.max.name ∈ pv_W := pv_mem (pv_m3 (i := 195) rfl) rfl
theorem ml_X1_102 : Cond.methodLink RX1 102 yX1_isEnd ∈ pv_W := pv_mem (pv_m3 (i := 196) rfl) rfl
theorem ml_X1_106 : Cond.methodLink RX1 106 yX1_loadOf ∈ pv_W := pv_mem (pv_m3 (i := 200) rfl) rfl
theorem ml_X1_87 : Cond.methodLink RX1 87 Lib.Math.min.name ∈ pv_W := pv_mem (pv_m3 (i := 204) rfl) rfl
theorem ml_X1_58 : Cond.methodLink RX1 58 yX1_bendBy ∈ pv_W := pv_mem (pv_m3 (i := 205) rfl) rfl
theorem ml_X1_109 : Cond.methodLink RX1 109 yX0_tickOfBend ∈ pv_W := pv_mem (pv_m3 (i := 209) rfl) rfl
theorem ml_X1_120 : Cond.methodLink RX1 120 yX0_allTicks ∈ pv_W := pv_mem (pv_m3 (i := 213) rfl) rfl
theorem ml_X1_127 : Cond.methodLink RX1 127 yX0_bendBehind ∈ pv_W := pv_mem (pv_m3 (i := 217) rfl) rfl
theorem ml_X1_130 : Cond.methodLink RX1 130 yX0_turnBehind ∈ pv_W := pv_mem (pv_m3 (i := 218) rfl) rfl
theorem ml_X1_133 : Cond.methodLink RX1 133 yX1_findFirstCell ∈ pv_W := pv_mem (pv_m3 (i := 219) rfl) rfl
theorem ml_X1_62 : Cond.methodLink RX1 62 yX1_sendWaves ∈ pv_W := pv_mem (pv_m3 (i := 223) rfl) rfl
theorem ml_X1_146 : Cond.methodLink RX1 146 yX2_offBy ∈ pv_W := pv_mem (pv_m3 (i := 227) rfl) rfl
theorem ml_X1_155 : Cond.methodLink RX1 155 yJ7_fill_53178 ∈ pv_W := pv_mem (pv_m3 (i := 231) rfl) rfl
theorem ml_X1_161 : Cond.methodLink RX1 161 yX1_kindOfFirst ∈ pv_W := pv_mem (pv_m3 (i := 234) rfl) rfl
theorem ml_X1_164 : Cond.methodLink RX1 164 yX1_breakCell ∈ pv_W := pv_mem (pv_m3 (i := 238) rfl) rfl
theorem ml_X1_183 : Cond.methodLink RX1 183 yX1_beginWave ∈ pv_W := pv_mem (pv_m4 (i := 3) rfl) rfl
theorem ml_X1_168 : Cond.methodLink RX1 168 yX1_moveAll ∈ pv_W := pv_mem (pv_m4 (i := 7) rfl) rfl
theorem ml_X1_190 : Cond.methodLink RX1 190 yX1_goesOn ∈ pv_W := pv_mem (pv_m4 (i := 11) rfl) rfl
theorem ml_X1_197 : Cond.methodLink RX1 197 yX2_hitOn ∈ pv_W := pv_mem (pv_m4 (i := 15) rfl) rfl
theorem ml_X1_200 : Cond.methodLink RX1 200 yX1_noteGreatest ∈ pv_W := pv_mem (pv_m4 (i := 19) rfl) rfl
theorem ml_X1_172 : Cond.methodLink RX1 172 yX1_countCells ∈ pv_W := pv_mem (pv_m4 (i := 23) rfl) rfl
theorem ml_X9_193 : Cond.methodLink RX9 193 yX7_copyFrom ∈ pv_W := pv_mem (pv_m4 (i := 27) rfl) rfl
theorem ml_X7_28 : Cond.methodLink RX7 28 arraycopyName ∈ pv_W := pv_mem (pv_m4 (i := 31) rfl) rfl
theorem ml_L_50 : Cond.methodLink RL 50 yX9_broke ∈ pv_W := pv_mem (pv_m4 (i := 32) rfl) rfl
theorem ml_L_54 : Cond.methodLink RL 54 yX9_piece ∈ pv_W := pv_mem (pv_m4 (i := 36) rfl) rfl
theorem ml_X9_208 : Cond.methodLink RX9 208 yX9_codeForPiece ∈ pv_W := pv_mem (pv_m4 (i := 40) rfl) rfl
theorem ml_L_58 : Cond.methodLink RL 58 yX9_wave ∈ pv_W := pv_mem (pv_m4 (i := 44) rfl) rfl
theorem ml_L_62 : Cond.methodLink RL 62 yX9_run ∈ pv_W := pv_mem (pv_m4 (i := 48) rfl) rfl
theorem ml_L_66 : Cond.methodLink RL 66 yX9_why ∈ pv_W := pv_mem (pv_m4 (i := 52) rfl) rfl
theorem ml_X9_217 : Cond.methodLink RX9 217 yX7_turnAhead ∈ pv_W := pv_mem (pv_m4 (i := 56) rfl) rfl
theorem ml_X7_38 : Cond.methodLink RX7 38 yX7_cellOf ∈ pv_W := pv_mem (pv_m4 (i := 60) rfl) rfl
theorem ml_X7_53 : Cond.methodLink RX7 53 Lib.Math.abs.name ∈ pv_W := pv_mem (pv_m4 (i := 64) rfl) rfl
theorem ml_L_71 : Cond.methodLink RL 71 yX9_film ∈ pv_W := pv_mem (pv_m4 (i := 67) rfl) rfl
theorem ml_X9_220 : Cond.methodLink RX9 220 yX9_isRow ∈ pv_W := pv_mem (pv_m4 (i := 71) rfl) rfl
theorem ml_X9_226 : Cond.methodLink RX9 226 yX7_holdsTicks ∈ pv_W := pv_mem (pv_m4 (i := 74) rfl) rfl
theorem ml_X7_68 : Cond.methodLink RX7 68 yX7_tickOf ∈ pv_W := pv_mem (pv_m4 (i := 78) rfl) rfl
theorem ml_L_75 : Cond.methodLink RL 75 yX9_beyond ∈ pv_W := pv_mem (pv_m4 (i := 82) rfl) rfl
theorem ml_X9_230 : Cond.methodLink RX9 230 yX1_take ∈ pv_W := pv_mem (pv_m4 (i := 86) rfl) rfl
theorem ml_X9_234 : Cond.methodLink RX9 234 yX1_bendBy ∈ pv_W := pv_mem (pv_m4 (i := 87) rfl) rfl
theorem ml_X9_238 : Cond.methodLink RX9 238 yX1_sendWaves ∈ pv_W := pv_mem (pv_m4 (i := 88) rfl) rfl
theorem ml_X9_248 : Cond.methodLink RX9 248 yX1_aboveStrength ∈ pv_W := pv_mem (pv_m4 (i := 89) rfl) rfl
theorem ml_L_80 : Cond.methodLink RL 80 yX9_odds ∈ pv_W := pv_mem (pv_m4 (i := 94) rfl) rfl
theorem ml_X9_251 : Cond.methodLink RX9 251 yX9_areSeeds ∈ pv_W := pv_mem (pv_m4 (i := 98) rfl) rfl
theorem ml_X9_254 : Cond.methodLink RX9 254 Lib.Math.min.name ∈ pv_W := pv_mem (pv_m4 (i := 101) rfl) rfl
theorem ml_L_84 : Cond.methodLink RL 84 yX9_ends ∈ pv_W := pv_mem (pv_m4 (i := 102) rfl) rfl
theorem ml_X9_259 : Cond.methodLink RX9 259 yX7_breakAt ∈ pv_W := pv_mem (pv_m4 (i := 106) rfl) rfl
theorem ml_L_88 : Cond.methodLink RL 88 yX9_paced ∈ pv_W := pv_mem (pv_m4 (i := 110) rfl) rfl
theorem ml_X9_262 : Cond.methodLink RX9 262 yX9_isPace ∈ pv_W := pv_mem (pv_m4 (i := 114) rfl) rfl
theorem ml_L_92 : Cond.methodLink RL 92 yX9_turned ∈ pv_W := pv_mem (pv_m4 (i := 117) rfl) rfl
theorem ml_L_96 : Cond.methodLink RL 96 yX9_least ∈ pv_W := pv_mem (pv_m4 (i := 121) rfl) rfl
theorem ml_X9_265 : Cond.methodLink RX9 265 yX9_leastTurn ∈ pv_W := pv_mem (pv_m4 (i := 125) rfl) rfl
theorem ml_X9_269 : Cond.methodLink RX9 269 yX2_offBy ∈ pv_W := pv_mem (pv_m4 (i := 129) rfl) rfl
theorem ml_L_100 : Cond.methodLink RL 100 yX9_line ∈ pv_W := pv_mem (pv_m4 (i := 130) rfl) rfl
theorem ml_L_104 : Cond.methodLink RL 104 yX9_notched ∈ pv_W := pv_mem (pv_m4 (i := 134) rfl) rfl
theorem ml_X9_272 : Cond.methodLink RX9 272 yX9_piecesNotched ∈ pv_W := pv_mem (pv_m4 (i := 138) rfl) rfl
theorem ml_L_108 : Cond.methodLink RL 108 yX9_notch ∈ pv_W := pv_mem (pv_m4 (i := 142) rfl) rfl
theorem ml_L_112 : Cond.methodLink RL 112 yX9_longer ∈ pv_W := pv_mem (pv_m4 (i := 146) rfl) rfl
theorem ml_X9_275 : Cond.methodLink RX9 275 yX5_begin ∈ pv_W := pv_mem (pv_m4 (i := 150) rfl) rfl
theorem ml_X9_276 : Cond.methodLink RX9 276 yX5_takeCell ∈ pv_W := pv_mem (pv_m4 (i := 151) rfl) rfl
theorem ml_L_116 : Cond.methodLink RL 116 yX9_thinner ∈ pv_W := pv_mem (pv_m4 (i := 155) rfl) rfl
theorem ml_X9_280 : Cond.methodLink RX9 280 Lib.Math.max.name ∈ pv_W := pv_mem (pv_m4 (i := 159) rfl) rfl
theorem ml_L_120 : Cond.methodLink RL 120 yX9_beside ∈ pv_W := pv_mem (pv_m4 (i := 160) rfl) rfl
theorem ml_X9_283 : Cond.methodLink RX9 283 yX9_piecesStiffened ∈ pv_W := pv_mem (pv_m4 (i := 164) rfl) rfl
theorem ml_L_124 : Cond.methodLink RL 124 yX9_never ∈ pv_W := pv_mem (pv_m4 (i := 168) rfl) rfl
theorem ml_X9_286 : Cond.methodLink RX9 286 yX9_neverThree ∈ pv_W := pv_mem (pv_m4 (i := 172) rfl) rfl
theorem ml_L_128 : Cond.methodLink RL 128 yX9_read ∈ pv_W := pv_mem (pv_m4 (i := 176) rfl) rfl
theorem ml_X9_290 : Cond.methodLink RX9 290 yX9_runsLike ∈ pv_W := pv_mem (pv_m4 (i := 180) rfl) rfl
theorem ml_X9_294 : Cond.methodLink RX9 294 yX7_hasPieces ∈ pv_W := pv_mem (pv_m4 (i := 184) rfl) rfl
theorem ml_L_132 : Cond.methodLink RL 132 yX9_was ∈ pv_W := pv_mem (pv_m4 (i := 188) rfl) rfl
theorem ml_L_136 : Cond.methodLink RL 136 yX9_found ∈ pv_W := pv_mem (pv_m4 (i := 192) rfl) rfl
theorem ml_X9_300 : Cond.methodLink RX9 300 yX3_isSo ∈ pv_W := pv_mem (pv_m4 (i := 196) rfl) rfl
theorem ml_X3_34 : Cond.methodLink RX3 34 yX3_isFact ∈ pv_W := pv_mem (pv_m4 (i := 200) rfl) rfl
theorem ml_X3_43 : Cond.methodLink RX3 43 yX7_kindOf ∈ pv_W := pv_mem (pv_m4 (i := 203) rfl) rfl
theorem ml_X3_47 : Cond.methodLink RX3 47 yX7_breaksOfKind ∈ pv_W := pv_mem (pv_m4 (i := 207) rfl) rfl
theorem ml_X7_34 : Cond.methodLink RX7 34 yX7_kindOf ∈ pv_W := pv_mem (pv_m4 (i := 211) rfl) rfl
theorem ml_X3_50 : Cond.methodLink RX3 50 yX7_cellOf ∈ pv_W := pv_mem (pv_m4 (i := 212) rfl) rfl
theorem ml_X3_53 : Cond.methodLink RX3 53 yX7_longestPiece ∈ pv_W := pv_mem (pv_m4 (i := 213) rfl) rfl
theorem ml_X7_44 : Cond.methodLink RX7 44 Lib.Math.max.name ∈ pv_W := pv_mem (pv_m4 (i := 217) rfl) rfl
theorem ml_X3_57 : Cond.methodLink RX3 57 yX7_shortestPiece ∈ pv_W := pv_mem (pv_m4 (i := 218) rfl) rfl
theorem ml_X7_56 : Cond.methodLink RX7 56 Lib.Math.min.name ∈ pv_W := pv_mem (pv_m4 (i := 222) rfl) rfl
theorem ml_X3_60 : Cond.methodLink RX3 60 yX7_tickOf ∈ pv_W := pv_mem (pv_m4 (i := 223) rfl) rfl
theorem ml_L_140 : Cond.methodLink RL 140 yX9_middle ∈ pv_W := pv_mem (pv_m4 (i := 224) rfl) rfl
theorem ml_L_144 : Cond.methodLink RL 144 yX9_filmed ∈ pv_W := pv_mem (pv_m4 (i := 228) rfl) rfl
theorem ml_L_148 : Cond.methodLink RL 148 yX9_swapped ∈ pv_W := pv_mem (pv_m4 (i := 232) rfl) rfl
theorem ml_L_152 : Cond.methodLink RL 152 yX9_grid ∈ pv_W := pv_mem (pv_m4 (i := 236) rfl) rfl
theorem ml_L_156 : Cond.methodLink RL 156 yX9_flies ∈ pv_W := pv_mem (pv_m5 (i := 0) rfl) rfl
theorem ml_X9_304 : Cond.methodLink RX9 304 yX7_flightOf ∈ pv_W := pv_mem (pv_m5 (i := 4) rfl) rfl
theorem ml_X7_50 : Cond.methodLink RX7 50 yX7_causeAt ∈ pv_W := pv_mem (pv_m5 (i := 8) rfl) rfl
theorem ml_X7_41 : Cond.methodLink RX7 41 yX7_breakAt ∈ pv_W := pv_mem (pv_m5 (i := 12) rfl) rfl
theorem ml_L_160 : Cond.methodLink RL 160 yX9_row ∈ pv_W := pv_mem (pv_m5 (i := 13) rfl) rfl
theorem ml_X9_307 : Cond.methodLink RX9 307 yX6_begin ∈ pv_W := pv_mem (pv_m5 (i := 17) rfl) rfl
theorem ml_X6_26 : Cond.methodLink RX6 26 yJ7_fill_d0a16 ∈ pv_W := pv_mem (pv_m5 (i := 21) rfl) rfl
theorem ml_L_166 : Cond.methodLink RL 166 yX9_write ∈ pv_W := pv_mem (pv_m5 (i := 24) rfl) rfl
theorem ml_X9_312 : Cond.methodLink RX9 312 yX6_put ∈ pv_W := pv_mem (pv_m5 (i := 28) rfl) rfl
theorem ml_L_171 : Cond.methodLink RL 171 yX9_keep ∈ pv_W := pv_mem (pv_m5 (i := 32) rfl) rfl
theorem ml_X9_315 : Cond.methodLink RX9 315 yX7_tickOf ∈ pv_W := pv_mem (pv_m5 (i := 36) rfl) rfl
theorem ml_L_175 : Cond.methodLink RL 175 yX9_image ∈ pv_W := pv_mem (pv_m5 (i := 37) rfl) rfl
theorem ml_X9_318 : Cond.methodLink RX9 318 yX8_copyFrom ∈ pv_W := pv_mem (pv_m5 (i := 41) rfl) rfl
theorem ml_X8_50 : Cond.methodLink RX8 50 yX5_copyFrom ∈ pv_W := pv_mem (pv_m5 (i := 45) rfl) rfl
theorem ml_X8_54 : Cond.methodLink RX8 54 yX0_copyFrom ∈ pv_W := pv_mem (pv_m5 (i := 46) rfl) rfl
theorem ml_X8_57 : Cond.methodLink RX8 57 yX2_copyFrom ∈ pv_W := pv_mem (pv_m5 (i := 47) rfl) rfl
theorem ml_X8_60 : Cond.methodLink RX8 60 yX3_copyFrom ∈ pv_W := pv_mem (pv_m5 (i := 48) rfl) rfl
theorem ml_X8_63 : Cond.methodLink RX8 63 yX7_copyFrom ∈ pv_W := pv_mem (pv_m5 (i := 49) rfl) rfl
theorem ml_L_179 : Cond.methodLink RL 179 yX9_restore ∈ pv_W := pv_mem (pv_m5 (i := 50) rfl) rfl
theorem ml_L_183 : Cond.methodLink RL 183 yX9_status ∈ pv_W := pv_mem (pv_m5 (i := 54) rfl) rfl
theorem ml_L_187 : Cond.methodLink RL 187 yX9_count ∈ pv_W := pv_mem (pv_m5 (i := 58) rfl) rfl
theorem ml_X9_324 : Cond.methodLink RX9 324 yX8_rodsThere ∈ pv_W := pv_mem (pv_m5 (i := 62) rfl) rfl
theorem ml_X9_332 : Cond.methodLink RX9 332 yX0_allTicks ∈ pv_W := pv_mem (pv_m5 (i := 66) rfl) rfl
theorem ml_L_12 : Cond.methodLink RL 12 yX10_init ∈ pv_W := pv_mem (pv_m5 (i := 69) rfl) rfl
theorem ml_X10_11 : Cond.methodLink RX10 11 Lib.objectInit ∈ pv_W := pv_mem (pv_m5 (i := 72) rfl) rfl
theorem ml_X10_124 : Cond.methodLink RX10 124 yX10_plainLaw ∈ pv_W := pv_mem (pv_m5 (i := 73) rfl) rfl
theorem ml_L_17 : Cond.methodLink RL 17 yX10_feed ∈ pv_W := pv_mem (pv_m6 (i := 37) rfl) rfl
theorem ml_X10_131 : Cond.methodLink RX10 131 yX10_no ∈ pv_W := pv_mem (pv_m6 (i := 41) rfl) rfl
theorem ml_L_22 : Cond.methodLink RL 22 yX10_text ∈ pv_W := pv_mem (pv_m6 (i := 45) rfl) rfl
theorem ml_X10_193 : Cond.methodLink RX10 193 yX10_within ∈ pv_W := pv_mem (pv_m6 (i := 50) rfl) rfl
theorem ml_X10_184 : Cond.methodLink RX10 184 yX10_next ∈ pv_W := pv_mem (pv_m6 (i := 53) rfl) rfl
theorem ml_X10_156 : Cond.methodLink RX10 156 yX10_see ∈ pv_W := pv_mem (pv_m6 (i := 57) rfl) rfl
theorem ml_X10_162 : Cond.methodLink RX10 162 yX10_isSmall ∈ pv_W := pv_mem (pv_m6 (i := 61) rfl) rfl
theorem ml_X10_166 : Cond.methodLink RX10 166 yX10_keyAt ∈ pv_W := pv_mem (pv_m6 (i := 64) rfl) rfl
theorem ml_X10_140 : Cond.methodLink RX10 140 yJ0_length_8abf5 ∈ pv_W := pv_mem (pv_m6 (i := 69) rfl) rfl
theorem ml_J0_335 : Cond.methodLink RJ0 335 yJ0_coder_7d493 ∈ pv_W := pv_mem (pv_m6 (i := 73) rfl) rfl
theorem ml_X10_146 : Cond.methodLink RX10 146 yJ0_charAt_5068e ∈ pv_W := pv_mem (pv_m6 (i := 77) rfl) rfl
theorem ml_J0_495 : Cond.methodLink RJ0 495 yJ1_charAt_3b067 ∈ pv_W := pv_mem (pv_m6 (i := 81) rfl) rfl
theorem ml_J1_9 : Cond.methodLink RJ1 9 yJ0_checkIndex_df160 ∈ pv_W := pv_mem (pv_m6 (i := 84) rfl) rfl
theorem ml_J0_1059 : Cond.methodLink RJ0 1059 yJ3_checkIndex_8e157 ∈ pv_W := pv_mem (pv_m6 (i := 87) rfl) rfl
theorem ml_J0_498 : Cond.methodLink RJ0 498 yJ2_charAt_3b067 ∈ pv_W := pv_mem (pv_m6 (i := 90) rfl) rfl
theorem ml_J2_67 : Cond.methodLink RJ2 67 yJ2_checkIndex_2214a ∈ pv_W := pv_mem (pv_m6 (i := 93) rfl) rfl
theorem ml_J2_414 : Cond.methodLink RJ2 414 yJ0_checkIndex_df160 ∈ pv_W := pv_mem (pv_m6 (i := 96) rfl) rfl
theorem ml_X10_169 : Cond.methodLink RX10 169 yX10_isDigit ∈ pv_W := pv_mem (pv_m6 (i := 97) rfl) rfl
theorem ml_X10_252 : Cond.methodLink RX10 252 yX10_readRodLine ∈ pv_W := pv_mem (pv_m6 (i := 100) rfl) rfl
theorem ml_X10_207 : Cond.methodLink RX10 207 yX10_readFirst ∈ pv_W := pv_mem (pv_m6 (i := 104) rfl) rfl
theorem ml_X10_201 : Cond.methodLink RX10 201 yX10_needs ∈ pv_W := pv_mem (pv_m6 (i := 108) rfl) rfl
theorem ml_X10_187 : Cond.methodLink RX10 187 yX10_eats ∈ pv_W := pv_mem (pv_m6 (i := 112) rfl) rfl
theorem ml_X10_181 : Cond.methodLink RX10 181 yX10_is ∈ pv_W := pv_mem (pv_m6 (i := 116) rfl) rfl
theorem ml_X10_190 : Cond.methodLink RX10 190 yX10_fails ∈ pv_W := pv_mem (pv_m6 (i := 120) rfl) rfl
theorem ml_X10_197 : Cond.methodLink RX10 197 yX10_reads ∈ pv_W := pv_mem (pv_m6 (i := 124) rfl) rfl
theorem ml_X10_212 : Cond.methodLink RX10 212 yX10_readSpans ∈ pv_W := pv_mem (pv_m6 (i := 129) rfl) rfl
theorem ml_X10_255 : Cond.methodLink RX10 255 yX10_readStep ∈ pv_W := pv_mem (pv_m6 (i := 133) rfl) rfl
theorem ml_X10_258 : Cond.methodLink RX10 258 yX10_readLaw ∈ pv_W := pv_mem (pv_m6 (i := 139) rfl) rfl
theorem ml_X10_261 : Cond.methodLink RX10 261 yX10_readLook ∈ pv_W := pv_mem (pv_m6 (i := 145) rfl) rfl
theorem ml_X10_239 : Cond.methodLink RX10 239 yX10_readTest ∈ pv_W := pv_mem (pv_m6 (i := 149) rfl) rfl
theorem ml_X10_227 : Cond.methodLink RX10 227 yX10_readPart ∈ pv_W := pv_mem (pv_m6 (i := 153) rfl) rfl
theorem ml_X10_233 : Cond.methodLink RX10 233 yX10_readFact ∈ pv_W := pv_mem (pv_m6 (i := 157) rfl) rfl
theorem ml_X10_230 : Cond.methodLink RX10 230 yX10_emit ∈ pv_W := pv_mem (pv_m6 (i := 161) rfl) rfl
theorem ml_L_27 : Cond.methodLink RL 27 yX10_fault ∈ pv_W := pv_mem (pv_m6 (i := 169) rfl) rfl
theorem ml_L_32 : Cond.methodLink RL 32 yX10_rod ∈ pv_W := pv_mem (pv_m6 (i := 173) rfl) rfl
theorem ml_X10_277 : Cond.methodLink RX10 277 yX10_isRod ∈ pv_W := pv_mem (pv_m6 (i := 177) rfl) rfl
theorem ml_L_36 : Cond.methodLink RL 36 yX10_cell ∈ pv_W := pv_mem (pv_m6 (i := 181) rfl) rfl
theorem ml_X10_282 : Cond.methodLink RX10 282 yX10_takes ∈ pv_W := pv_mem (pv_m6 (i := 186) rfl) rfl
theorem ml_X10_273 : Cond.methodLink RX10 273 yX10_shapes ∈ pv_W := pv_mem (pv_m6 (i := 190) rfl) rfl
theorem ml_L_40 : Cond.methodLink RL 40 yX10_strength ∈ pv_W := pv_mem (pv_m6 (i := 194) rfl) rfl
theorem ml_X10_285 : Cond.methodLink RX10 285 yX10_draws ∈ pv_W := pv_mem (pv_m6 (i := 198) rfl) rfl
theorem ml_L_45 : Cond.methodLink RL 45 yX10_bent ∈ pv_W := pv_mem (pv_m6 (i := 203) rfl) rfl
theorem ml_X10_312 : Cond.methodLink RX10 312 yX10_isDoing ∈ pv_W := pv_mem (pv_m6 (i := 207) rfl) rfl
theorem ml_X10_317 : Cond.methodLink RX10 317 yX10_does ∈ pv_W := pv_mem (pv_m6 (i := 211) rfl) rfl
theorem ml_X10_294 : Cond.methodLink RX10 294 yX10_laysTicks ∈ pv_W := pv_mem (pv_m6 (i := 215) rfl) rfl
theorem ml_X10_309 : Cond.methodLink RX10 309 yX10_acts ∈ pv_W := pv_mem (pv_m6 (i := 219) rfl) rfl
theorem ml_L_49 : Cond.methodLink RL 49 yX10_go ∈ pv_W := pv_mem (pv_m6 (i := 223) rfl) rfl
theorem ml_X10_396 : Cond.methodLink RX10 396 yX10_isBoth ∈ pv_W := pv_mem (pv_m6 (i := 227) rfl) rfl
theorem ml_X10_400 : Cond.methodLink RX10 400 yX10_piecesOf ∈ pv_W := pv_mem (pv_m6 (i := 231) rfl) rfl
theorem ml_X10_393 : Cond.methodLink RX10 393 yX10_runs ∈ pv_W := pv_mem (pv_m6 (i := 235) rfl) rfl
theorem ml_X10_371 : Cond.methodLink RX10 371 yX10_firstTick ∈ pv_W := pv_mem (pv_m6 (i := 239) rfl) rfl
theorem ml_X10_387 : Cond.methodLink RX10 387 yX10_bendOf ∈ pv_W := pv_mem (pv_m7 (i := 3) rfl) rfl
theorem ml_X10_320 : Cond.methodLink RX10 320 yX10_loadBy ∈ pv_W := pv_mem (pv_m7 (i := 7) rfl) rfl
theorem ml_X10_374 : Cond.methodLink RX10 374 yX10_weakest ∈ pv_W := pv_mem (pv_m7 (i := 11) rfl) rfl
theorem ml_X10_343 : Cond.methodLink RX10 343 yX10_loadOf ∈ pv_W := pv_mem (pv_m7 (i := 15) rfl) rfl
theorem ml_X10_353 : Cond.methodLink RX10 353 yX10_breaks ∈ pv_W := pv_mem (pv_m7 (i := 19) rfl) rfl
theorem ml_X10_331 : Cond.methodLink RX10 331 yX10_part ∈ pv_W := pv_mem (pv_m7 (i := 23) rfl) rfl
theorem ml_X10_335 : Cond.methodLink RX10 335 yX10_begins ∈ pv_W := pv_mem (pv_m7 (i := 28) rfl) rfl
theorem ml_X10_377 : Cond.methodLink RX10 377 yX10_isGoing ∈ pv_W := pv_mem (pv_m7 (i := 32) rfl) rfl
theorem ml_X10_381 : Cond.methodLink RX10 381 yX10_comes ∈ pv_W := pv_mem (pv_m7 (i := 36) rfl) rfl
theorem ml_X10_339 : Cond.methodLink RX10 339 yX10_stops ∈ pv_W := pv_mem (pv_m7 (i := 40) rfl) rfl
theorem ml_X10_350 : Cond.methodLink RX10 350 yX10_looks ∈ pv_W := pv_mem (pv_m7 (i := 44) rfl) rfl
theorem ml_X10_384 : Cond.methodLink RX10 384 yX10_cuts ∈ pv_W := pv_mem (pv_m7 (i := 48) rfl) rfl
theorem ml_L_53 : Cond.methodLink RL 53 yX10_broke ∈ pv_W := pv_mem (pv_m7 (i := 52) rfl) rfl
theorem ml_X10_404 : Cond.methodLink RX10 404 yX10_isKept ∈ pv_W := pv_mem (pv_m7 (i := 56) rfl) rfl
theorem ml_L_57 : Cond.methodLink RL 57 yX10_piece ∈ pv_W := pv_mem (pv_m7 (i := 60) rfl) rfl
theorem ml_L_61 : Cond.methodLink RL 61 yX10_wave ∈ pv_W := pv_mem (pv_m7 (i := 64) rfl) rfl
theorem ml_L_65 : Cond.methodLink RL 65 yX10_run ∈ pv_W := pv_mem (pv_m7 (i := 69) rfl) rfl
theorem ml_L_70 : Cond.methodLink RL 70 yX10_why ∈ pv_W := pv_mem (pv_m7 (i := 74) rfl) rfl
theorem ml_L_74 : Cond.methodLink RL 74 yX10_film ∈ pv_W := pv_mem (pv_m7 (i := 78) rfl) rfl
theorem ml_L_79 : Cond.methodLink RL 79 yX10_beyond ∈ pv_W := pv_mem (pv_m7 (i := 82) rfl) rfl
theorem ml_L_83 : Cond.methodLink RL 83 yX10_odds ∈ pv_W := pv_mem (pv_m7 (i := 88) rfl) rfl
theorem ml_L_87 : Cond.methodLink RL 87 yX10_ends ∈ pv_W := pv_mem (pv_m7 (i := 92) rfl) rfl
theorem ml_X10_414 : Cond.methodLink RX10 414 yX10_isCell ∈ pv_W := pv_mem (pv_m7 (i := 96) rfl) rfl
theorem ml_L_91 : Cond.methodLink RL 91 yX10_paced ∈ pv_W := pv_mem (pv_m7 (i := 100) rfl) rfl
theorem ml_L_95 : Cond.methodLink RL 95 yX10_turned ∈ pv_W := pv_mem (pv_m7 (i := 104) rfl) rfl
theorem ml_L_99 : Cond.methodLink RL 99 yX10_least ∈ pv_W := pv_mem (pv_m7 (i := 109) rfl) rfl
theorem ml_X10_419 : Cond.methodLink RX10 419 yX10_leastTurn ∈ pv_W := pv_mem (pv_m7 (i := 113) rfl) rfl
theorem ml_L_103 : Cond.methodLink RL 103 yX10_line ∈ pv_W := pv_mem (pv_m7 (i := 117) rfl) rfl
theorem ml_L_107 : Cond.methodLink RL 107 yX10_notched ∈ pv_W := pv_mem (pv_m7 (i := 121) rfl) rfl
theorem ml_X10_425 : Cond.methodLink RX10 425 yX10_notchedTo ∈ pv_W := pv_mem (pv_m7 (i := 126) rfl) rfl
theorem ml_L_111 : Cond.methodLink RL 111 yX10_notch ∈ pv_W := pv_mem (pv_m7 (i := 130) rfl) rfl
theorem ml_L_115 : Cond.methodLink RL 115 yX10_longer ∈ pv_W := pv_mem (pv_m7 (i := 134) rfl) rfl
theorem ml_L_119 : Cond.methodLink RL 119 yX10_thinner ∈ pv_W := pv_mem (pv_m7 (i := 139) rfl) rfl
theorem ml_L_123 : Cond.methodLink RL 123 yX10_beside ∈ pv_W := pv_mem (pv_m7 (i := 143) rfl) rfl
theorem ml_X10_430 : Cond.methodLink RX10 430 yX10_besideOf ∈ pv_W := pv_mem (pv_m7 (i := 147) rfl) rfl
theorem ml_L_127 : Cond.methodLink RL 127 yX10_never ∈ pv_W := pv_mem (pv_m7 (i := 151) rfl) rfl
theorem ml_L_131 : Cond.methodLink RL 131 yX10_read ∈ pv_W := pv_mem (pv_m7 (i := 155) rfl) rfl
theorem ml_X10_436 : Cond.methodLink RX10 436 yX10_readsOf ∈ pv_W := pv_mem (pv_m7 (i := 159) rfl) rfl
theorem ml_X10_433 : Cond.methodLink RX10 433 yX10_isRead ∈ pv_W := pv_mem (pv_m7 (i := 163) rfl) rfl
theorem ml_L_135 : Cond.methodLink RL 135 yX10_was ∈ pv_W := pv_mem (pv_m7 (i := 167) rfl) rfl
theorem ml_L_139 : Cond.methodLink RL 139 yX10_found ∈ pv_W := pv_mem (pv_m7 (i := 171) rfl) rfl
theorem ml_X10_449 : Cond.methodLink RX10 449 yX10_isSo ∈ pv_W := pv_mem (pv_m7 (i := 175) rfl) rfl
theorem ml_X10_446 : Cond.methodLink RX10 446 yX10_fact ∈ pv_W := pv_mem (pv_m7 (i := 179) rfl) rfl
theorem ml_X10_439 : Cond.methodLink RX10 439 yX10_kinds ∈ pv_W := pv_mem (pv_m7 (i := 183) rfl) rfl
theorem ml_X10_442 : Cond.methodLink RX10 442 yX10_longest ∈ pv_W := pv_mem (pv_m7 (i := 187) rfl) rfl
theorem ml_L_143 : Cond.methodLink RL 143 yX10_middle ∈ pv_W := pv_mem (pv_m7 (i := 191) rfl) rfl
theorem ml_L_147 : Cond.methodLink RL 147 yX10_filmed ∈ pv_W := pv_mem (pv_m7 (i := 195) rfl) rfl
theorem ml_X10_452 : Cond.methodLink RX10 452 yX10_isFilmed ∈ pv_W := pv_mem (pv_m7 (i := 199) rfl) rfl
theorem ml_L_151 : Cond.methodLink RL 151 yX10_swapped ∈ pv_W := pv_mem (pv_m7 (i := 203) rfl) rfl
theorem ml_L_155 : Cond.methodLink RL 155 yX10_grid ∈ pv_W := pv_mem (pv_m7 (i := 207) rfl) rfl
theorem ml_L_159 : Cond.methodLink RL 159 yX10_flies ∈ pv_W := pv_mem (pv_m7 (i := 211) rfl) rfl
theorem ml_X10_455 : Cond.methodLink RX10 455 yX10_brokenBy ∈ pv_W := pv_mem (pv_m7 (i := 215) rfl) rfl
theorem ml_L_163 : Cond.methodLink RL 163 yX10_row ∈ pv_W := pv_mem (pv_m7 (i := 219) rfl) rfl
theorem ml_L_170 : Cond.methodLink RL 170 yX10_write ∈ pv_W := pv_mem (pv_m7 (i := 223) rfl) rfl
theorem ml_X10_458 : Cond.methodLink RX10 458 yX10_cut ∈ pv_W := pv_mem (pv_m7 (i := 227) rfl) rfl
theorem ml_L_174 : Cond.methodLink RL 174 yX10_keep ∈ pv_W := pv_mem (pv_m7 (i := 230) rfl) rfl
theorem ml_L_178 : Cond.methodLink RL 178 yX10_image ∈ pv_W := pv_mem (pv_m7 (i := 234) rfl) rfl
theorem ml_L_182 : Cond.methodLink RL 182 yX10_restore ∈ pv_W := pv_mem (pv_m7 (i := 238) rfl) rfl
theorem ml_L_186 : Cond.methodLink RL 186 yX10_status ∈ pv_W := pv_mem (pv_m8 (i := 2) rfl) rfl
theorem ml_L_190 : Cond.methodLink RL 190 yX10_count ∈ pv_W := pv_mem (pv_m8 (i := 6) rfl) rfl
theorem ml_X10_470 : Cond.methodLink RX10 470 yX10_ticksOf ∈ pv_W := pv_mem (pv_m8 (i := 14) rfl) rfl
theorem ml_X10_473 : Cond.methodLink RX10 473 yX10_rodsOf ∈ pv_W := pv_mem (pv_m8 (i := 18) rfl) rfl
theorem mn_X9_9 : Cond.methodLinkNest RX9 9 yX4_init "RodInThree" ∈ pv_nest := pv_memN (pv_m1 (i := 29) rfl) rfl
theorem mn_X4_17 : Cond.methodLinkNest RX4 17 yX5_init "RodInThree" ∈ pv_nest := pv_memN (pv_m1 (i := 35) rfl) rfl
theorem mn_X4_24 : Cond.methodLinkNest RX4 24 yX0_init "RodInThree" ∈ pv_nest := pv_memN (pv_m1 (i := 79) rfl) rfl
theorem mn_X4_38 : Cond.methodLinkNest RX4 38 yX3_init "RodInThree" ∈ pv_nest := pv_memN (pv_m1 (i := 127) rfl) rfl
theorem mn_X8_32 : Cond.methodLinkNest RX8 32 yX3_init "RodInThree" ∈ pv_nest := pv_memN (pv_m2 (i := 21) rfl) rfl
theorem mn_X8_39 : Cond.methodLinkNest RX8 39 yX7_init "RodInThree" ∈ pv_nest := pv_memN (pv_m2 (i := 24) rfl) rfl
theorem mn_X8_44 : Cond.methodLinkNest RX8 44 yX5_init "RodInThree" ∈ pv_nest := pv_memN (pv_m2 (i := 54) rfl) rfl
theorem mn_X8_45 : Cond.methodLinkNest RX8 45 yX0_init "RodInThree" ∈ pv_nest := pv_memN (pv_m2 (i := 55) rfl) rfl
theorem mn_X9_39 : Cond.methodLinkNest RX9 39 yX1_init "RodInThree" ∈ pv_nest := pv_memN (pv_m2 (i := 89) rfl) rfl
theorem mn_X1_11 : Cond.methodLinkNest RX1 11 yX7_init "RodInThree" ∈ pv_nest := pv_memN (pv_m2 (i := 94) rfl) rfl
theorem mn_X1_20 : Cond.methodLinkNest RX1 20 yX5_init "RodInThree" ∈ pv_nest := pv_memN (pv_m2 (i := 96) rfl) rfl
theorem mn_X9_46 : Cond.methodLinkNest RX9 46 yX5_init "RodInThree" ∈ pv_nest := pv_memN (pv_m2 (i := 158) rfl) rfl
theorem mn_X9_54 : Cond.methodLinkNest RX9 54 yX6_init "RodInThree" ∈ pv_nest := pv_memN (pv_m2 (i := 160) rfl) rfl
theorem fn_X2_22 : Cond.fieldLinkNest RX2 22 "RodInThree" "LAW_WITHOUT" "[I" "RodInThree" ∈ pv_nest := pv_memN (pv_m1 (i := 108) rfl) rfl
theorem fn_X4_111 : Cond.fieldLinkNest RX4 111 "RodInThree" "LEAST" "[I" "RodInThree" ∈ pv_nest := pv_memN (pv_m3 (i := 29) rfl) rfl
theorem fn_X4_115 : Cond.fieldLinkNest RX4 115 "RodInThree" "MOST" "[I" "RodInThree" ∈ pv_nest := pv_memN (pv_m3 (i := 31) rfl) rfl
theorem md_X9_init : pv_MD yX9_init cX9_init 2 none 0 := ⟨pv_mem (pv_m1 (i := 23) rfl) rfl, pv_mem (pv_m1 (i := 1) rfl) rfl, ⟨by decide, by decide, by decide +kernel⟩, by decide⟩
theorem im_X9_init : Cond.instanceMethod yX9_init ∈ pv_W := pv_mem (pv_m1 (i := 22) rfl) rfl
theorem md_X9_adoptText : pv_MD yX9_adoptText cX9_adoptText 3 none 2 := ⟨pv_mem (pv_m3 (i := 105) rfl) rfl, pv_mem (pv_m1 (i := 1) rfl) rfl, ⟨by decide, by decide, by decide +kernel⟩, by decide⟩
theorem im_X9_adoptText : Cond.instanceMethod yX9_adoptText ∈ pv_W := pv_mem (pv_m3 (i := 104) rfl) rfl
theorem se_X9_adoptText : Cond.selects (pv_cn 9) yX9_adoptText yX9_adoptText ∈ pv_W := pv_mem (pv_m0 (i := 17) rfl) rfl
theorem md_X9_areSeeds : pv_MD yX9_areSeeds cX9_areSeeds 1 (some .boolean) 1 := ⟨pv_mem (pv_m4 (i := 100) rfl) rfl, pv_mem (pv_m1 (i := 1) rfl) rfl, ⟨by decide, by decide, by decide +kernel⟩, by decide⟩
theorem st_X9_areSeeds : Cond.static yX9_areSeeds ∈ pv_W := pv_mem (pv_m4 (i := 99) rfl) rfl
theorem md_X9_bent : pv_MD yX9_bent cX9_bent 4 (some .int) 3 := ⟨pv_mem (pv_m3 (i := 157) rfl) rfl, pv_mem (pv_m1 (i := 1) rfl) rfl, ⟨by decide, by decide, by decide +kernel⟩, by decide⟩
theorem im_X9_bent : Cond.instanceMethod yX9_bent ∈ pv_W := pv_mem (pv_m3 (i := 155) rfl) rfl
theorem se_X9_bent : Cond.selects (pv_cn 9) yX9_bent yX9_bent ∈ pv_W := pv_mem (pv_m3 (i := 156) rfl) rfl
theorem md_X9_beside : pv_MD yX9_beside cX9_beside 5 (some .int) 4 := ⟨pv_mem (pv_m4 (i := 163) rfl) rfl, pv_mem (pv_m1 (i := 1) rfl) rfl, ⟨by decide, by decide, by decide +kernel⟩, by decide⟩
theorem im_X9_beside : Cond.instanceMethod yX9_beside ∈ pv_W := pv_mem (pv_m4 (i := 161) rfl) rfl
theorem se_X9_beside : Cond.selects (pv_cn 9) yX9_beside yX9_beside ∈ pv_W := pv_mem (pv_m4 (i := 162) rfl) rfl
theorem md_X9_beyond : pv_MD yX9_beyond cX9_beyond 5 (some .int) 4 := ⟨pv_mem (pv_m4 (i := 85) rfl) rfl, pv_mem (pv_m1 (i := 1) rfl) rfl, ⟨by decide, by decide, by decide +kernel⟩, by decide⟩
theorem im_X9_beyond : Cond.instanceMethod yX9_beyond ∈ pv_W := pv_mem (pv_m4 (i := 83) rfl) rfl
theorem se_X9_beyond : Cond.selects (pv_cn 9) yX9_beyond yX9_beyond ∈ pv_W := pv_mem (pv_m4 (i := 84) rfl) rfl
theorem md_X9_broke : pv_MD yX9_broke cX9_broke 3 (some .int) 2 := ⟨pv_mem (pv_m4 (i := 35) rfl) rfl, pv_mem (pv_m1 (i := 1) rfl) rfl, ⟨by decide, by decide, by decide +kernel⟩, by decide⟩
theorem im_X9_broke : Cond.instanceMethod yX9_broke ∈ pv_W := pv_mem (pv_m4 (i := 33) rfl) rfl
theorem se_X9_broke : Cond.selects (pv_cn 9) yX9_broke yX9_broke ∈ pv_W := pv_mem (pv_m4 (i := 34) rfl) rfl
theorem md_X9_cell : pv_MD yX9_cell cX9_cell 5 (some .int) 3 := ⟨pv_mem (pv_m3 (i := 140) rfl) rfl, pv_mem (pv_m1 (i := 1) rfl) rfl, ⟨by decide, by decide, by decide +kernel⟩, by decide⟩
theorem im_X9_cell : Cond.instanceMethod yX9_cell ∈ pv_W := pv_mem (pv_m3 (i := 138) rfl) rfl
theorem se_X9_cell : Cond.selects (pv_cn 9) yX9_cell yX9_cell ∈ pv_W := pv_mem (pv_m3 (i := 139) rfl) rfl
theorem md_X9_codeForPiece : pv_MD yX9_codeForPiece cX9_codeForPiece 2 (some .int) 1 := ⟨pv_mem (pv_m4 (i := 43) rfl) rfl, pv_mem (pv_m1 (i := 1) rfl) rfl, ⟨by decide, by decide, by decide +kernel⟩, by decide⟩
theorem im_X9_codeForPiece : Cond.instanceMethod yX9_codeForPiece ∈ pv_W := pv_mem (pv_m4 (i := 42) rfl) rfl
theorem se_X9_codeForPiece : Cond.selects (pv_cn 9) yX9_codeForPiece yX9_codeForPiece ∈ pv_W := pv_mem (pv_m0 (i := 32) rfl) rfl
theorem md_X9_count : pv_MD yX9_count cX9_count 2 (some .int) 1 := ⟨pv_mem (pv_m5 (i := 61) rfl) rfl, pv_mem (pv_m1 (i := 1) rfl) rfl, ⟨by decide, by decide, by decide +kernel⟩, by decide⟩
theorem im_X9_count : Cond.instanceMethod yX9_count ∈ pv_W := pv_mem (pv_m5 (i := 59) rfl) rfl
theorem se_X9_count : Cond.selects (pv_cn 9) yX9_count yX9_count ∈ pv_W := pv_mem (pv_m5 (i := 60) rfl) rfl
theorem md_X9_ends : pv_MD yX9_ends cX9_ends 7 (some .int) 4 := ⟨pv_mem (pv_m4 (i := 105) rfl) rfl, pv_mem (pv_m1 (i := 1) rfl) rfl, ⟨by decide, by decide, by decide +kernel⟩, by decide⟩
theorem im_X9_ends : Cond.instanceMethod yX9_ends ∈ pv_W := pv_mem (pv_m4 (i := 103) rfl) rfl
theorem se_X9_ends : Cond.selects (pv_cn 9) yX9_ends yX9_ends ∈ pv_W := pv_mem (pv_m4 (i := 104) rfl) rfl
theorem md_X9_fault : pv_MD yX9_fault cX9_fault 2 (some .int) 1 := ⟨pv_mem (pv_m3 (i := 128) rfl) rfl, pv_mem (pv_m1 (i := 1) rfl) rfl, ⟨by decide, by decide, by decide +kernel⟩, by decide⟩
theorem im_X9_fault : Cond.instanceMethod yX9_fault ∈ pv_W := pv_mem (pv_m3 (i := 126) rfl) rfl
theorem se_X9_fault : Cond.selects (pv_cn 9) yX9_fault yX9_fault ∈ pv_W := pv_mem (pv_m3 (i := 127) rfl) rfl
theorem md_X9_feed : pv_MD yX9_feed cX9_feed 6 (some .int) 5 := ⟨pv_mem (pv_m2 (i := 210) rfl) rfl, pv_mem (pv_m1 (i := 1) rfl) rfl, ⟨by decide, by decide, by decide +kernel⟩, by decide⟩
theorem im_X9_feed : Cond.instanceMethod yX9_feed ∈ pv_W := pv_mem (pv_m2 (i := 208) rfl) rfl
theorem se_X9_feed : Cond.selects (pv_cn 9) yX9_feed yX9_feed ∈ pv_W := pv_mem (pv_m2 (i := 209) rfl) rfl
theorem md_X9_film : pv_MD yX9_film cX9_film 2 (some .int) 1 := ⟨pv_mem (pv_m4 (i := 70) rfl) rfl, pv_mem (pv_m1 (i := 1) rfl) rfl, ⟨by decide, by decide, by decide +kernel⟩, by decide⟩
theorem im_X9_film : Cond.instanceMethod yX9_film ∈ pv_W := pv_mem (pv_m4 (i := 68) rfl) rfl
theorem se_X9_film : Cond.selects (pv_cn 9) yX9_film yX9_film ∈ pv_W := pv_mem (pv_m4 (i := 69) rfl) rfl
theorem md_X9_filmed : pv_MD yX9_filmed cX9_filmed 9 (some .int) 5 := ⟨pv_mem (pv_m4 (i := 231) rfl) rfl, pv_mem (pv_m1 (i := 1) rfl) rfl, ⟨by decide, by decide, by decide +kernel⟩, by decide⟩
theorem im_X9_filmed : Cond.instanceMethod yX9_filmed ∈ pv_W := pv_mem (pv_m4 (i := 229) rfl) rfl
theorem se_X9_filmed : Cond.selects (pv_cn 9) yX9_filmed yX9_filmed ∈ pv_W := pv_mem (pv_m4 (i := 230) rfl) rfl
theorem md_X9_flies : pv_MD yX9_flies cX9_flies 3 (some .int) 1 := ⟨pv_mem (pv_m5 (i := 3) rfl) rfl, pv_mem (pv_m1 (i := 1) rfl) rfl, ⟨by decide, by decide, by decide +kernel⟩, by decide⟩
theorem im_X9_flies : Cond.instanceMethod yX9_flies ∈ pv_W := pv_mem (pv_m5 (i := 1) rfl) rfl
theorem se_X9_flies : Cond.selects (pv_cn 9) yX9_flies yX9_flies ∈ pv_W := pv_mem (pv_m5 (i := 2) rfl) rfl
theorem md_X9_found : pv_MD yX9_found cX9_found 9 (some .int) 5 := ⟨pv_mem (pv_m4 (i := 195) rfl) rfl, pv_mem (pv_m1 (i := 1) rfl) rfl, ⟨by decide, by decide, by decide +kernel⟩, by decide⟩
theorem im_X9_found : Cond.instanceMethod yX9_found ∈ pv_W := pv_mem (pv_m4 (i := 193) rfl) rfl
theorem se_X9_found : Cond.selects (pv_cn 9) yX9_found yX9_found ∈ pv_W := pv_mem (pv_m4 (i := 194) rfl) rfl
theorem md_X9_go : pv_MD yX9_go cX9_go 5 (some .int) 3 := ⟨pv_mem (pv_m3 (i := 181) rfl) rfl, pv_mem (pv_m1 (i := 1) rfl) rfl, ⟨by decide, by decide, by decide +kernel⟩, by decide⟩
theorem im_X9_go : Cond.instanceMethod yX9_go ∈ pv_W := pv_mem (pv_m3 (i := 179) rfl) rfl
theorem se_X9_go : Cond.selects (pv_cn 9) yX9_go yX9_go ∈ pv_W := pv_mem (pv_m3 (i := 180) rfl) rfl
theorem md_X9_grid : pv_MD yX9_grid cX9_grid 7 (some .int) 3 := ⟨pv_mem (pv_m4 (i := 239) rfl) rfl, pv_mem (pv_m1 (i := 1) rfl) rfl, ⟨by decide, by decide, by decide +kernel⟩, by decide⟩
theorem im_X9_grid : Cond.instanceMethod yX9_grid ∈ pv_W := pv_mem (pv_m4 (i := 237) rfl) rfl
theorem se_X9_grid : Cond.selects (pv_cn 9) yX9_grid yX9_grid ∈ pv_W := pv_mem (pv_m4 (i := 238) rfl) rfl
theorem md_X9_hasCell : pv_MD yX9_hasCell cX9_hasCell 3 (some .boolean) 2 := ⟨pv_mem (pv_m3 (i := 144) rfl) rfl, pv_mem (pv_m1 (i := 1) rfl) rfl, ⟨by decide, by decide, by decide +kernel⟩, by decide⟩
theorem im_X9_hasCell : Cond.instanceMethod yX9_hasCell ∈ pv_W := pv_mem (pv_m3 (i := 143) rfl) rfl
theorem se_X9_hasCell : Cond.selects (pv_cn 9) yX9_hasCell yX9_hasCell ∈ pv_W := pv_mem (pv_m0 (i := 19) rfl) rfl
theorem md_X9_hasDoings : pv_MD yX9_hasDoings cX9_hasDoings 1 (some .boolean) 1 := ⟨pv_mem (pv_m3 (i := 160) rfl) rfl, pv_mem (pv_m1 (i := 1) rfl) rfl, ⟨by decide, by decide, by decide +kernel⟩, by decide⟩
theorem st_X9_hasDoings : Cond.static yX9_hasDoings ∈ pv_W := pv_mem (pv_m3 (i := 159) rfl) rfl
theorem md_X9_hasRod : pv_MD yX9_hasRod cX9_hasRod 2 (some .boolean) 1 := ⟨pv_mem (pv_m3 (i := 136) rfl) rfl, pv_mem (pv_m1 (i := 1) rfl) rfl, ⟨by decide, by decide, by decide +kernel⟩, by decide⟩
theorem im_X9_hasRod : Cond.instanceMethod yX9_hasRod ∈ pv_W := pv_mem (pv_m3 (i := 135) rfl) rfl
theorem se_X9_hasRod : Cond.selects (pv_cn 9) yX9_hasRod yX9_hasRod ∈ pv_W := pv_mem (pv_m0 (i := 18) rfl) rfl
theorem md_X9_image : pv_MD yX9_image cX9_image 2 (some .int) 1 := ⟨pv_mem (pv_m5 (i := 40) rfl) rfl, pv_mem (pv_m1 (i := 1) rfl) rfl, ⟨by decide, by decide, by decide +kernel⟩, by decide⟩
theorem im_X9_image : Cond.instanceMethod yX9_image ∈ pv_W := pv_mem (pv_m5 (i := 38) rfl) rfl
theorem se_X9_image : Cond.selects (pv_cn 9) yX9_image yX9_image ∈ pv_W := pv_mem (pv_m5 (i := 39) rfl) rfl
theorem md_X9_isPace : pv_MD yX9_isPace cX9_isPace 1 (some .boolean) 1 := ⟨pv_mem (pv_m4 (i := 116) rfl) rfl, pv_mem (pv_m1 (i := 1) rfl) rfl, ⟨by decide, by decide, by decide +kernel⟩, by decide⟩
theorem st_X9_isPace : Cond.static yX9_isPace ∈ pv_W := pv_mem (pv_m4 (i := 115) rfl) rfl
theorem md_X9_isRow : pv_MD yX9_isRow cX9_isRow 1 (some .boolean) 1 := ⟨pv_mem (pv_m4 (i := 73) rfl) rfl, pv_mem (pv_m1 (i := 1) rfl) rfl, ⟨by decide, by decide, by decide +kernel⟩, by decide⟩
theorem st_X9_isRow : Cond.static yX9_isRow ∈ pv_W := pv_mem (pv_m4 (i := 72) rfl) rfl
theorem md_X9_isTextPlace : pv_MD yX9_isTextPlace cX9_isTextPlace 2 (some .boolean) 2 := ⟨pv_mem (pv_m2 (i := 225) rfl) rfl, pv_mem (pv_m1 (i := 1) rfl) rfl, ⟨by decide, by decide, by decide +kernel⟩, by decide⟩
theorem st_X9_isTextPlace : Cond.static yX9_isTextPlace ∈ pv_W := pv_mem (pv_m2 (i := 224) rfl) rfl
theorem md_X9_keep : pv_MD yX9_keep cX9_keep 6 (some .int) 2 := ⟨pv_mem (pv_m5 (i := 35) rfl) rfl, pv_mem (pv_m1 (i := 1) rfl) rfl, ⟨by decide, by decide, by decide +kernel⟩, by decide⟩
theorem im_X9_keep : Cond.instanceMethod yX9_keep ∈ pv_W := pv_mem (pv_m5 (i := 33) rfl) rfl
theorem se_X9_keep : Cond.selects (pv_cn 9) yX9_keep yX9_keep ∈ pv_W := pv_mem (pv_m5 (i := 34) rfl) rfl
theorem md_X9_least : pv_MD yX9_least cX9_least 4 (some .int) 3 := ⟨pv_mem (pv_m4 (i := 124) rfl) rfl, pv_mem (pv_m1 (i := 1) rfl) rfl, ⟨by decide, by decide, by decide +kernel⟩, by decide⟩
theorem im_X9_least : Cond.instanceMethod yX9_least ∈ pv_W := pv_mem (pv_m4 (i := 122) rfl) rfl
theorem se_X9_least : Cond.selects (pv_cn 9) yX9_least yX9_least ∈ pv_W := pv_mem (pv_m4 (i := 123) rfl) rfl
theorem md_X9_leastTurn : pv_MD yX9_leastTurn cX9_leastTurn 7 (some .int) 4 := ⟨pv_mem (pv_m4 (i := 128) rfl) rfl, pv_mem (pv_m1 (i := 1) rfl) rfl, ⟨by decide, by decide, by decide +kernel⟩, by decide⟩
theorem im_X9_leastTurn : Cond.instanceMethod yX9_leastTurn ∈ pv_W := pv_mem (pv_m4 (i := 127) rfl) rfl
theorem se_X9_leastTurn : Cond.selects (pv_cn 9) yX9_leastTurn yX9_leastTurn ∈ pv_W := pv_mem (pv_m0 (i := 33) rfl) rfl
theorem md_X9_line : pv_MD yX9_line cX9_line 5 (some .int) 4 := ⟨pv_mem (pv_m4 (i := 133) rfl) rfl, pv_mem (pv_m1 (i := 1) rfl) rfl, ⟨by decide, by decide, by decide +kernel⟩, by decide⟩
theorem im_X9_line : Cond.instanceMethod yX9_line ∈ pv_W := pv_mem (pv_m4 (i := 131) rfl) rfl
theorem se_X9_line : Cond.selects (pv_cn 9) yX9_line yX9_line ∈ pv_W := pv_mem (pv_m4 (i := 132) rfl) rfl
theorem md_X9_longer : pv_MD yX9_longer cX9_longer 6 (some .int) 4 := ⟨pv_mem (pv_m4 (i := 149) rfl) rfl, pv_mem (pv_m1 (i := 1) rfl) rfl, ⟨by decide, by decide, by decide +kernel⟩, by decide⟩
theorem im_X9_longer : Cond.instanceMethod yX9_longer ∈ pv_W := pv_mem (pv_m4 (i := 147) rfl) rfl
theorem se_X9_longer : Cond.selects (pv_cn 9) yX9_longer yX9_longer ∈ pv_W := pv_mem (pv_m4 (i := 148) rfl) rfl
theorem md_X9_middle : pv_MD yX9_middle cX9_middle 13 (some .int) 4 := ⟨pv_mem (pv_m4 (i := 227) rfl) rfl, pv_mem (pv_m1 (i := 1) rfl) rfl, ⟨by decide, by decide, by decide +kernel⟩, by decide⟩
theorem im_X9_middle : Cond.instanceMethod yX9_middle ∈ pv_W := pv_mem (pv_m4 (i := 225) rfl) rfl
theorem se_X9_middle : Cond.selects (pv_cn 9) yX9_middle yX9_middle ∈ pv_W := pv_mem (pv_m4 (i := 226) rfl) rfl
theorem md_X9_never : pv_MD yX9_never cX9_never 5 (some .int) 2 := ⟨pv_mem (pv_m4 (i := 171) rfl) rfl, pv_mem (pv_m1 (i := 1) rfl) rfl, ⟨by decide, by decide, by decide +kernel⟩, by decide⟩
theorem im_X9_never : Cond.instanceMethod yX9_never ∈ pv_W := pv_mem (pv_m4 (i := 169) rfl) rfl
theorem se_X9_never : Cond.selects (pv_cn 9) yX9_never yX9_never ∈ pv_W := pv_mem (pv_m4 (i := 170) rfl) rfl
theorem md_X9_neverThree : pv_MD yX9_neverThree cX9_neverThree 5 (some .boolean) 3 := ⟨pv_mem (pv_m4 (i := 175) rfl) rfl, pv_mem (pv_m1 (i := 1) rfl) rfl, ⟨by decide, by decide, by decide +kernel⟩, by decide⟩
theorem im_X9_neverThree : Cond.instanceMethod yX9_neverThree ∈ pv_W := pv_mem (pv_m4 (i := 174) rfl) rfl
theorem se_X9_neverThree : Cond.selects (pv_cn 9) yX9_neverThree yX9_neverThree ∈ pv_W := pv_mem (pv_m0 (i := 36) rfl) rfl
theorem md_X9_notch : pv_MD yX9_notch cX9_notch 7 (some .int) 4 := ⟨pv_mem (pv_m4 (i := 145) rfl) rfl, pv_mem (pv_m1 (i := 1) rfl) rfl, ⟨by decide, by decide, by decide +kernel⟩, by decide⟩
theorem im_X9_notch : Cond.instanceMethod yX9_notch ∈ pv_W := pv_mem (pv_m4 (i := 143) rfl) rfl
theorem se_X9_notch : Cond.selects (pv_cn 9) yX9_notch yX9_notch ∈ pv_W := pv_mem (pv_m4 (i := 144) rfl) rfl
theorem md_X9_notched : pv_MD yX9_notched cX9_notched 6 (some .int) 5 := ⟨pv_mem (pv_m4 (i := 137) rfl) rfl, pv_mem (pv_m1 (i := 1) rfl) rfl, ⟨by decide, by decide, by decide +kernel⟩, by decide⟩
theorem im_X9_notched : Cond.instanceMethod yX9_notched ∈ pv_W := pv_mem (pv_m4 (i := 135) rfl) rfl
theorem se_X9_notched : Cond.selects (pv_cn 9) yX9_notched yX9_notched ∈ pv_W := pv_mem (pv_m4 (i := 136) rfl) rfl
theorem md_X9_odds : pv_MD yX9_odds cX9_odds 8 (some .int) 4 := ⟨pv_mem (pv_m4 (i := 97) rfl) rfl, pv_mem (pv_m1 (i := 1) rfl) rfl, ⟨by decide, by decide, by decide +kernel⟩, by decide⟩
theorem im_X9_odds : Cond.instanceMethod yX9_odds ∈ pv_W := pv_mem (pv_m4 (i := 95) rfl) rfl
theorem se_X9_odds : Cond.selects (pv_cn 9) yX9_odds yX9_odds ∈ pv_W := pv_mem (pv_m4 (i := 96) rfl) rfl
theorem md_X9_paced : pv_MD yX9_paced cX9_paced 5 (some .int) 4 := ⟨pv_mem (pv_m4 (i := 113) rfl) rfl, pv_mem (pv_m1 (i := 1) rfl) rfl, ⟨by decide, by decide, by decide +kernel⟩, by decide⟩
theorem im_X9_paced : Cond.instanceMethod yX9_paced ∈ pv_W := pv_mem (pv_m4 (i := 111) rfl) rfl
theorem se_X9_paced : Cond.selects (pv_cn 9) yX9_paced yX9_paced ∈ pv_W := pv_mem (pv_m4 (i := 112) rfl) rfl
theorem md_X9_piece : pv_MD yX9_piece cX9_piece 3 (some .int) 1 := ⟨pv_mem (pv_m4 (i := 39) rfl) rfl, pv_mem (pv_m1 (i := 1) rfl) rfl, ⟨by decide, by decide, by decide +kernel⟩, by decide⟩
theorem im_X9_piece : Cond.instanceMethod yX9_piece ∈ pv_W := pv_mem (pv_m4 (i := 37) rfl) rfl
theorem se_X9_piece : Cond.selects (pv_cn 9) yX9_piece yX9_piece ∈ pv_W := pv_mem (pv_m4 (i := 38) rfl) rfl
theorem md_X9_piecesNotched : pv_MD yX9_piecesNotched cX9_piecesNotched 6 (some .int) 4 := ⟨pv_mem (pv_m4 (i := 141) rfl) rfl, pv_mem (pv_m1 (i := 1) rfl) rfl, ⟨by decide, by decide, by decide +kernel⟩, by decide⟩
theorem im_X9_piecesNotched : Cond.instanceMethod yX9_piecesNotched ∈ pv_W := pv_mem (pv_m4 (i := 140) rfl) rfl
theorem se_X9_piecesNotched : Cond.selects (pv_cn 9) yX9_piecesNotched yX9_piecesNotched ∈ pv_W := pv_mem (pv_m0 (i := 34) rfl) rfl
theorem md_X9_piecesStiffened : pv_MD yX9_piecesStiffened cX9_piecesStiffened 6 (some .int) 4 := ⟨pv_mem (pv_m4 (i := 167) rfl) rfl, pv_mem (pv_m1 (i := 1) rfl) rfl, ⟨by decide, by decide, by decide +kernel⟩, by decide⟩
theorem im_X9_piecesStiffened : Cond.instanceMethod yX9_piecesStiffened ∈ pv_W := pv_mem (pv_m4 (i := 166) rfl) rfl
theorem se_X9_piecesStiffened : Cond.selects (pv_cn 9) yX9_piecesStiffened yX9_piecesStiffened ∈ pv_W := pv_mem (pv_m0 (i := 35) rfl) rfl
theorem md_X9_read : pv_MD yX9_read cX9_read 10 (some .int) 4 := ⟨pv_mem (pv_m4 (i := 179) rfl) rfl, pv_mem (pv_m1 (i := 1) rfl) rfl, ⟨by decide, by decide, by decide +kernel⟩, by decide⟩
theorem im_X9_read : Cond.instanceMethod yX9_read ∈ pv_W := pv_mem (pv_m4 (i := 177) rfl) rfl
theorem se_X9_read : Cond.selects (pv_cn 9) yX9_read yX9_read ∈ pv_W := pv_mem (pv_m4 (i := 178) rfl) rfl
theorem md_X9_refuse : pv_MD yX9_refuse cX9_refuse 2 (some .int) 1 := ⟨pv_mem (pv_m2 (i := 214) rfl) rfl, pv_mem (pv_m1 (i := 1) rfl) rfl, ⟨by decide, by decide, by decide +kernel⟩, by decide⟩
theorem im_X9_refuse : Cond.instanceMethod yX9_refuse ∈ pv_W := pv_mem (pv_m2 (i := 213) rfl) rfl
theorem se_X9_refuse : Cond.selects (pv_cn 9) yX9_refuse yX9_refuse ∈ pv_W := pv_mem (pv_m0 (i := 0) rfl) rfl
theorem md_X9_restore : pv_MD yX9_restore cX9_restore 2 (some .int) 1 := ⟨pv_mem (pv_m5 (i := 53) rfl) rfl, pv_mem (pv_m1 (i := 1) rfl) rfl, ⟨by decide, by decide, by decide +kernel⟩, by decide⟩
theorem im_X9_restore : Cond.instanceMethod yX9_restore ∈ pv_W := pv_mem (pv_m5 (i := 51) rfl) rfl
theorem se_X9_restore : Cond.selects (pv_cn 9) yX9_restore yX9_restore ∈ pv_W := pv_mem (pv_m5 (i := 52) rfl) rfl
theorem md_X9_rod : pv_MD yX9_rod cX9_rod 3 (some .int) 2 := ⟨pv_mem (pv_m3 (i := 132) rfl) rfl, pv_mem (pv_m1 (i := 1) rfl) rfl, ⟨by decide, by decide, by decide +kernel⟩, by decide⟩
theorem im_X9_rod : Cond.instanceMethod yX9_rod ∈ pv_W := pv_mem (pv_m3 (i := 130) rfl) rfl
theorem se_X9_rod : Cond.selects (pv_cn 9) yX9_rod yX9_rod ∈ pv_W := pv_mem (pv_m3 (i := 131) rfl) rfl
theorem md_X9_row : pv_MD yX9_row cX9_row 4 (some .int) 3 := ⟨pv_mem (pv_m5 (i := 16) rfl) rfl, pv_mem (pv_m1 (i := 1) rfl) rfl, ⟨by decide, by decide, by decide +kernel⟩, by decide⟩
theorem im_X9_row : Cond.instanceMethod yX9_row ∈ pv_W := pv_mem (pv_m5 (i := 14) rfl) rfl
theorem se_X9_row : Cond.selects (pv_cn 9) yX9_row yX9_row ∈ pv_W := pv_mem (pv_m5 (i := 15) rfl) rfl
theorem md_X9_run : pv_MD yX9_run cX9_run 2 (some .int) 1 := ⟨pv_mem (pv_m4 (i := 51) rfl) rfl, pv_mem (pv_m1 (i := 1) rfl) rfl, ⟨by decide, by decide, by decide +kernel⟩, by decide⟩
theorem im_X9_run : Cond.instanceMethod yX9_run ∈ pv_W := pv_mem (pv_m4 (i := 49) rfl) rfl
theorem se_X9_run : Cond.selects (pv_cn 9) yX9_run yX9_run ∈ pv_W := pv_mem (pv_m4 (i := 50) rfl) rfl
theorem md_X9_runsLike : pv_MD yX9_runsLike cX9_runsLike 9 (some .int) 5 := ⟨pv_mem (pv_m4 (i := 183) rfl) rfl, pv_mem (pv_m1 (i := 1) rfl) rfl, ⟨by decide, by decide, by decide +kernel⟩, by decide⟩
theorem im_X9_runsLike : Cond.instanceMethod yX9_runsLike ∈ pv_W := pv_mem (pv_m4 (i := 182) rfl) rfl
theorem se_X9_runsLike : Cond.selects (pv_cn 9) yX9_runsLike yX9_runsLike ∈ pv_W := pv_mem (pv_m0 (i := 37) rfl) rfl
theorem md_X9_status : pv_MD yX9_status cX9_status 2 (some .int) 1 := ⟨pv_mem (pv_m5 (i := 57) rfl) rfl, pv_mem (pv_m1 (i := 1) rfl) rfl, ⟨by decide, by decide, by decide +kernel⟩, by decide⟩
theorem im_X9_status : Cond.instanceMethod yX9_status ∈ pv_W := pv_mem (pv_m5 (i := 55) rfl) rfl
theorem se_X9_status : Cond.selects (pv_cn 9) yX9_status yX9_status ∈ pv_W := pv_mem (pv_m5 (i := 56) rfl) rfl
theorem md_X9_strength : pv_MD yX9_strength cX9_strength 4 (some .int) 3 := ⟨pv_mem (pv_m3 (i := 148) rfl) rfl, pv_mem (pv_m1 (i := 1) rfl) rfl, ⟨by decide, by decide, by decide +kernel⟩, by decide⟩
theorem im_X9_strength : Cond.instanceMethod yX9_strength ∈ pv_W := pv_mem (pv_m3 (i := 146) rfl) rfl
theorem se_X9_strength : Cond.selects (pv_cn 9) yX9_strength yX9_strength ∈ pv_W := pv_mem (pv_m3 (i := 147) rfl) rfl
theorem md_X9_swapped : pv_MD yX9_swapped cX9_swapped 6 (some .int) 3 := ⟨pv_mem (pv_m4 (i := 235) rfl) rfl, pv_mem (pv_m1 (i := 1) rfl) rfl, ⟨by decide, by decide, by decide +kernel⟩, by decide⟩
theorem im_X9_swapped : Cond.instanceMethod yX9_swapped ∈ pv_W := pv_mem (pv_m4 (i := 233) rfl) rfl
theorem se_X9_swapped : Cond.selects (pv_cn 9) yX9_swapped yX9_swapped ∈ pv_W := pv_mem (pv_m4 (i := 234) rfl) rfl
theorem md_X9_text : pv_MD yX9_text cX9_text 5 (some .int) 3 := ⟨pv_mem (pv_m2 (i := 222) rfl) rfl, pv_mem (pv_m1 (i := 1) rfl) rfl, ⟨by decide, by decide, by decide +kernel⟩, by decide⟩
theorem im_X9_text : Cond.instanceMethod yX9_text ∈ pv_W := pv_mem (pv_m2 (i := 220) rfl) rfl
theorem se_X9_text : Cond.selects (pv_cn 9) yX9_text yX9_text ∈ pv_W := pv_mem (pv_m2 (i := 221) rfl) rfl
theorem md_X9_thinner : pv_MD yX9_thinner cX9_thinner 6 (some .int) 4 := ⟨pv_mem (pv_m4 (i := 158) rfl) rfl, pv_mem (pv_m1 (i := 1) rfl) rfl, ⟨by decide, by decide, by decide +kernel⟩, by decide⟩
theorem im_X9_thinner : Cond.instanceMethod yX9_thinner ∈ pv_W := pv_mem (pv_m4 (i := 156) rfl) rfl
theorem se_X9_thinner : Cond.selects (pv_cn 9) yX9_thinner yX9_thinner ∈ pv_W := pv_mem (pv_m4 (i := 157) rfl) rfl
theorem md_X9_turned : pv_MD yX9_turned cX9_turned 5 (some .int) 4 := ⟨pv_mem (pv_m4 (i := 120) rfl) rfl, pv_mem (pv_m1 (i := 1) rfl) rfl, ⟨by decide, by decide, by decide +kernel⟩, by decide⟩
theorem im_X9_turned : Cond.instanceMethod yX9_turned ∈ pv_W := pv_mem (pv_m4 (i := 118) rfl) rfl
theorem se_X9_turned : Cond.selects (pv_cn 9) yX9_turned yX9_turned ∈ pv_W := pv_mem (pv_m4 (i := 119) rfl) rfl
theorem md_X9_was : pv_MD yX9_was cX9_was 7 (some .int) 4 := ⟨pv_mem (pv_m4 (i := 191) rfl) rfl, pv_mem (pv_m1 (i := 1) rfl) rfl, ⟨by decide, by decide, by decide +kernel⟩, by decide⟩
theorem im_X9_was : Cond.instanceMethod yX9_was ∈ pv_W := pv_mem (pv_m4 (i := 189) rfl) rfl
theorem se_X9_was : Cond.selects (pv_cn 9) yX9_was yX9_was ∈ pv_W := pv_mem (pv_m4 (i := 190) rfl) rfl
theorem md_X9_wave : pv_MD yX9_wave cX9_wave 3 (some .int) 2 := ⟨pv_mem (pv_m4 (i := 47) rfl) rfl, pv_mem (pv_m1 (i := 1) rfl) rfl, ⟨by decide, by decide, by decide +kernel⟩, by decide⟩
theorem im_X9_wave : Cond.instanceMethod yX9_wave ∈ pv_W := pv_mem (pv_m4 (i := 45) rfl) rfl
theorem se_X9_wave : Cond.selects (pv_cn 9) yX9_wave yX9_wave ∈ pv_W := pv_mem (pv_m4 (i := 46) rfl) rfl
theorem md_X9_why : pv_MD yX9_why cX9_why 1 (some .int) 0 := ⟨pv_mem (pv_m4 (i := 55) rfl) rfl, pv_mem (pv_m1 (i := 1) rfl) rfl, ⟨by decide, by decide, by decide +kernel⟩, by decide⟩
theorem im_X9_why : Cond.instanceMethod yX9_why ∈ pv_W := pv_mem (pv_m4 (i := 53) rfl) rfl
theorem se_X9_why : Cond.selects (pv_cn 9) yX9_why yX9_why ∈ pv_W := pv_mem (pv_m4 (i := 54) rfl) rfl
theorem md_X9_write : pv_MD yX9_write cX9_write 5 (some .long) 3 := ⟨pv_mem (pv_m5 (i := 27) rfl) rfl, pv_mem (pv_m1 (i := 1) rfl) rfl, ⟨by decide, by decide, by decide +kernel⟩, by decide⟩
theorem im_X9_write : Cond.instanceMethod yX9_write ∈ pv_W := pv_mem (pv_m5 (i := 25) rfl) rfl
theorem se_X9_write : Cond.selects (pv_cn 9) yX9_write yX9_write ∈ pv_W := pv_mem (pv_m5 (i := 26) rfl) rfl
theorem md_X0_init : pv_MD yX0_init cX0_init 1 none 0 := ⟨pv_mem (pv_m1 (i := 81) rfl) rfl, pv_mem (pv_m1 (i := 4) rfl) rfl, ⟨by decide, by decide, by decide +kernel⟩, by decide⟩
theorem im_X0_init : Cond.instanceMethod yX0_init ∈ pv_W := pv_mem (pv_m1 (i := 80) rfl) rfl
theorem md_X0_allTicks : pv_MD yX0_allTicks cX0_allTicks 3 (some .int) 0 := ⟨pv_mem (pv_m3 (i := 216) rfl) rfl, pv_mem (pv_m1 (i := 4) rfl) rfl, ⟨by decide, by decide, by decide +kernel⟩, by decide⟩
theorem im_X0_allTicks : Cond.instanceMethod yX0_allTicks ∈ pv_W := pv_mem (pv_m3 (i := 214) rfl) rfl
theorem se_X0_allTicks : Cond.selects (pv_cn 0) yX0_allTicks yX0_allTicks ∈ pv_W := pv_mem (pv_m3 (i := 215) rfl) rfl
theorem md_X0_bendBehind : pv_MD yX0_bendBehind cX0_bendBehind 7 (some .int) 2 := ⟨pv_mem (pv_m3 (i := 174) rfl) rfl, pv_mem (pv_m1 (i := 4) rfl) rfl, ⟨by decide, by decide, by decide +kernel⟩, by decide⟩
theorem im_X0_bendBehind : Cond.instanceMethod yX0_bendBehind ∈ pv_W := pv_mem (pv_m3 (i := 172) rfl) rfl
theorem se_X0_bendBehind : Cond.selects (pv_cn 0) yX0_bendBehind yX0_bendBehind ∈ pv_W := pv_mem (pv_m3 (i := 173) rfl) rfl
theorem md_X0_bendBehindStep : pv_MD yX0_bendBehindStep cX0_bendBehindStep 3 (some .int) 3 := ⟨pv_mem (pv_m3 (i := 177) rfl) rfl, pv_mem (pv_m1 (i := 4) rfl) rfl, ⟨by decide, by decide, by decide +kernel⟩, by decide⟩
theorem st_X0_bendBehindStep : Cond.static yX0_bendBehindStep ∈ pv_W := pv_mem (pv_m3 (i := 176) rfl) rfl
theorem md_X0_byTick : pv_MD yX0_byTick cX0_byTick 3 (some .int) 2 := ⟨pv_mem (pv_m3 (i := 169) rfl) rfl, pv_mem (pv_m1 (i := 4) rfl) rfl, ⟨by decide, by decide, by decide +kernel⟩, by decide⟩
theorem im_X0_byTick : Cond.instanceMethod yX0_byTick ∈ pv_W := pv_mem (pv_m3 (i := 168) rfl) rfl
theorem se_X0_byTick : Cond.selects (pv_cn 0) yX0_byTick yX0_byTick ∈ pv_W := pv_mem (pv_m0 (i := 20) rfl) rfl
theorem md_X0_copyFrom : pv_MD yX0_copyFrom cX0_copyFrom 2 none 1 := ⟨pv_mem (pv_m3 (i := 114) rfl) rfl, pv_mem (pv_m1 (i := 4) rfl) rfl, ⟨by decide, by decide, by decide +kernel⟩, by decide⟩
theorem im_X0_copyFrom : Cond.instanceMethod yX0_copyFrom ∈ pv_W := pv_mem (pv_m3 (i := 112) rfl) rfl
theorem se_X0_copyFrom : Cond.selects (pv_cn 0) yX0_copyFrom yX0_copyFrom ∈ pv_W := pv_mem (pv_m3 (i := 113) rfl) rfl
theorem md_X0_tell : pv_MD yX0_tell cX0_tell 4 none 3 := ⟨pv_mem (pv_m3 (i := 68) rfl) rfl, pv_mem (pv_m1 (i := 4) rfl) rfl, ⟨by decide, by decide, by decide +kernel⟩, by decide⟩
theorem im_X0_tell : Cond.instanceMethod yX0_tell ∈ pv_W := pv_mem (pv_m3 (i := 66) rfl) rfl
theorem se_X0_tell : Cond.selects (pv_cn 0) yX0_tell yX0_tell ∈ pv_W := pv_mem (pv_m3 (i := 67) rfl) rfl
theorem md_X0_tickOfBend : pv_MD yX0_tickOfBend cX0_tickOfBend 9 (some .int) 2 := ⟨pv_mem (pv_m3 (i := 212) rfl) rfl, pv_mem (pv_m1 (i := 4) rfl) rfl, ⟨by decide, by decide, by decide +kernel⟩, by decide⟩
theorem im_X0_tickOfBend : Cond.instanceMethod yX0_tickOfBend ∈ pv_W := pv_mem (pv_m3 (i := 210) rfl) rfl
theorem se_X0_tickOfBend : Cond.selects (pv_cn 0) yX0_tickOfBend yX0_tickOfBend ∈ pv_W := pv_mem (pv_m3 (i := 211) rfl) rfl
theorem md_X0_turnBehind : pv_MD yX0_turnBehind cX0_turnBehind 7 (some .int) 2 := ⟨pv_mem (pv_m3 (i := 164) rfl) rfl, pv_mem (pv_m1 (i := 4) rfl) rfl, ⟨by decide, by decide, by decide +kernel⟩, by decide⟩
theorem im_X0_turnBehind : Cond.instanceMethod yX0_turnBehind ∈ pv_W := pv_mem (pv_m3 (i := 162) rfl) rfl
theorem se_X0_turnBehind : Cond.selects (pv_cn 0) yX0_turnBehind yX0_turnBehind ∈ pv_W := pv_mem (pv_m3 (i := 163) rfl) rfl
theorem md_X1_init : pv_MD yX1_init cX1_init 1 none 0 := ⟨pv_mem (pv_m2 (i := 91) rfl) rfl, pv_mem (pv_m1 (i := 14) rfl) rfl, ⟨by decide, by decide, by decide +kernel⟩, by decide⟩
theorem im_X1_init : Cond.instanceMethod yX1_init ∈ pv_W := pv_mem (pv_m2 (i := 90) rfl) rfl
theorem md_X1_aboveStrength : pv_MD yX1_aboveStrength cX1_aboveStrength 1 (some .int) 0 := ⟨pv_mem (pv_m4 (i := 92) rfl) rfl, pv_mem (pv_m1 (i := 14) rfl) rfl, ⟨by decide, by decide, by decide +kernel⟩, by decide⟩
theorem im_X1_aboveStrength : Cond.instanceMethod yX1_aboveStrength ∈ pv_W := pv_mem (pv_m4 (i := 90) rfl) rfl
theorem se_X1_aboveStrength : Cond.selects (pv_cn 1) yX1_aboveStrength yX1_aboveStrength ∈ pv_W := pv_mem (pv_m4 (i := 91) rfl) rfl
theorem md_X1_beginWave : pv_MD yX1_beginWave cX1_beginWave 7 none 5 := ⟨pv_mem (pv_m4 (i := 6) rfl) rfl, pv_mem (pv_m1 (i := 14) rfl) rfl, ⟨by decide, by decide, by decide +kernel⟩, by decide⟩
theorem im_X1_beginWave : Cond.instanceMethod yX1_beginWave ∈ pv_W := pv_mem (pv_m4 (i := 5) rfl) rfl
theorem se_X1_beginWave : Cond.selects (pv_cn 1) yX1_beginWave yX1_beginWave ∈ pv_W := pv_mem (pv_m0 (i := 27) rfl) rfl
theorem md_X1_bendBy : pv_MD yX1_bendBy cX1_bendBy 4 none 2 := ⟨pv_mem (pv_m3 (i := 208) rfl) rfl, pv_mem (pv_m1 (i := 14) rfl) rfl, ⟨by decide, by decide, by decide +kernel⟩, by decide⟩
theorem im_X1_bendBy : Cond.instanceMethod yX1_bendBy ∈ pv_W := pv_mem (pv_m3 (i := 206) rfl) rfl
theorem se_X1_bendBy : Cond.selects (pv_cn 1) yX1_bendBy yX1_bendBy ∈ pv_W := pv_mem (pv_m3 (i := 207) rfl) rfl
theorem md_X1_bendThatBreaks : pv_MD yX1_bendThatBreaks cX1_bendThatBreaks 7 (some .int) 1 := ⟨pv_mem (pv_m3 (i := 194) rfl) rfl, pv_mem (pv_m1 (i := 14) rfl) rfl, ⟨by decide, by decide, by decide +kernel⟩, by decide⟩
theorem im_X1_bendThatBreaks : Cond.instanceMethod yX1_bendThatBreaks ∈ pv_W := pv_mem (pv_m3 (i := 193) rfl) rfl
theorem se_X1_bendThatBreaks : Cond.selects (pv_cn 1) yX1_bendThatBreaks yX1_bendThatBreaks ∈ pv_W := pv_mem (pv_m0 (i := 21) rfl) rfl
theorem md_X1_breakCell : pv_MD yX1_breakCell cX1_breakCell 7 none 4 := ⟨pv_mem (pv_m4 (i := 1) rfl) rfl, pv_mem (pv_m1 (i := 14) rfl) rfl, ⟨by decide, by decide, by decide +kernel⟩, by decide⟩
theorem im_X1_breakCell : Cond.instanceMethod yX1_breakCell ∈ pv_W := pv_mem (pv_m4 (i := 0) rfl) rfl
theorem se_X1_breakCell : Cond.selects (pv_cn 1) yX1_breakCell yX1_breakCell ∈ pv_W := pv_mem (pv_m0 (i := 26) rfl) rfl
theorem md_X1_breakRod : pv_MD yX1_breakRod cX1_breakRod 5 (some .int) 4 := ⟨pv_mem (pv_m3 (i := 185) rfl) rfl, pv_mem (pv_m1 (i := 14) rfl) rfl, ⟨by decide, by decide, by decide +kernel⟩, by decide⟩
theorem im_X1_breakRod : Cond.instanceMethod yX1_breakRod ∈ pv_W := pv_mem (pv_m3 (i := 183) rfl) rfl
theorem se_X1_breakRod : Cond.selects (pv_cn 1) yX1_breakRod yX1_breakRod ∈ pv_W := pv_mem (pv_m3 (i := 184) rfl) rfl
theorem md_X1_countCells : pv_MD yX1_countCells cX1_countCells 5 none 0 := ⟨pv_mem (pv_m4 (i := 26) rfl) rfl, pv_mem (pv_m1 (i := 14) rfl) rfl, ⟨by decide, by decide, by decide +kernel⟩, by decide⟩
theorem im_X1_countCells : Cond.instanceMethod yX1_countCells ∈ pv_W := pv_mem (pv_m4 (i := 25) rfl) rfl
theorem se_X1_countCells : Cond.selects (pv_cn 1) yX1_countCells yX1_countCells ∈ pv_W := pv_mem (pv_m0 (i := 31) rfl) rfl
theorem md_X1_findFirstCell : pv_MD yX1_findFirstCell cX1_findFirstCell 3 none 0 := ⟨pv_mem (pv_m3 (i := 222) rfl) rfl, pv_mem (pv_m1 (i := 14) rfl) rfl, ⟨by decide, by decide, by decide +kernel⟩, by decide⟩
theorem im_X1_findFirstCell : Cond.instanceMethod yX1_findFirstCell ∈ pv_W := pv_mem (pv_m3 (i := 221) rfl) rfl
theorem se_X1_findFirstCell : Cond.selects (pv_cn 1) yX1_findFirstCell yX1_findFirstCell ∈ pv_W := pv_mem (pv_m0 (i := 24) rfl) rfl
theorem md_X1_goesOn : pv_MD yX1_goesOn cX1_goesOn 7 (some .boolean) 2 := ⟨pv_mem (pv_m4 (i := 14) rfl) rfl, pv_mem (pv_m1 (i := 14) rfl) rfl, ⟨by decide, by decide, by decide +kernel⟩, by decide⟩
theorem im_X1_goesOn : Cond.instanceMethod yX1_goesOn ∈ pv_W := pv_mem (pv_m4 (i := 13) rfl) rfl
theorem se_X1_goesOn : Cond.selects (pv_cn 1) yX1_goesOn yX1_goesOn ∈ pv_W := pv_mem (pv_m0 (i := 29) rfl) rfl
theorem md_X1_isEnd : pv_MD yX1_isEnd cX1_isEnd 2 (some .boolean) 1 := ⟨pv_mem (pv_m3 (i := 199) rfl) rfl, pv_mem (pv_m1 (i := 14) rfl) rfl, ⟨by decide, by decide, by decide +kernel⟩, by decide⟩
theorem im_X1_isEnd : Cond.instanceMethod yX1_isEnd ∈ pv_W := pv_mem (pv_m3 (i := 198) rfl) rfl
theorem se_X1_isEnd : Cond.selects (pv_cn 1) yX1_isEnd yX1_isEnd ∈ pv_W := pv_mem (pv_m0 (i := 22) rfl) rfl
theorem md_X1_kindOfFirst : pv_MD yX1_kindOfFirst cX1_kindOfFirst 1 (some .int) 0 := ⟨pv_mem (pv_m3 (i := 237) rfl) rfl, pv_mem (pv_m1 (i := 14) rfl) rfl, ⟨by decide, by decide, by decide +kernel⟩, by decide⟩
theorem im_X1_kindOfFirst : Cond.instanceMethod yX1_kindOfFirst ∈ pv_W := pv_mem (pv_m3 (i := 236) rfl) rfl
theorem se_X1_kindOfFirst : Cond.selects (pv_cn 1) yX1_kindOfFirst yX1_kindOfFirst ∈ pv_W := pv_mem (pv_m0 (i := 25) rfl) rfl
theorem md_X1_loadOf : pv_MD yX1_loadOf cX1_loadOf 4 (some .int) 2 := ⟨pv_mem (pv_m3 (i := 203) rfl) rfl, pv_mem (pv_m1 (i := 14) rfl) rfl, ⟨by decide, by decide, by decide +kernel⟩, by decide⟩
theorem im_X1_loadOf : Cond.instanceMethod yX1_loadOf ∈ pv_W := pv_mem (pv_m3 (i := 202) rfl) rfl
theorem se_X1_loadOf : Cond.selects (pv_cn 1) yX1_loadOf yX1_loadOf ∈ pv_W := pv_mem (pv_m0 (i := 23) rfl) rfl
theorem md_X1_moveAll : pv_MD yX1_moveAll cX1_moveAll 6 none 1 := ⟨pv_mem (pv_m4 (i := 10) rfl) rfl, pv_mem (pv_m1 (i := 14) rfl) rfl, ⟨by decide, by decide, by decide +kernel⟩, by decide⟩
theorem im_X1_moveAll : Cond.instanceMethod yX1_moveAll ∈ pv_W := pv_mem (pv_m4 (i := 9) rfl) rfl
theorem se_X1_moveAll : Cond.selects (pv_cn 1) yX1_moveAll yX1_moveAll ∈ pv_W := pv_mem (pv_m0 (i := 28) rfl) rfl
theorem md_X1_noteGreatest : pv_MD yX1_noteGreatest cX1_noteGreatest 3 none 2 := ⟨pv_mem (pv_m4 (i := 22) rfl) rfl, pv_mem (pv_m1 (i := 14) rfl) rfl, ⟨by decide, by decide, by decide +kernel⟩, by decide⟩
theorem im_X1_noteGreatest : Cond.instanceMethod yX1_noteGreatest ∈ pv_W := pv_mem (pv_m4 (i := 21) rfl) rfl
theorem se_X1_noteGreatest : Cond.selects (pv_cn 1) yX1_noteGreatest yX1_noteGreatest ∈ pv_W := pv_mem (pv_m0 (i := 30) rfl) rfl
theorem md_X1_sendWaves : pv_MD yX1_sendWaves cX1_sendWaves 6 (some .int) 2 := ⟨pv_mem (pv_m3 (i := 226) rfl) rfl, pv_mem (pv_m1 (i := 14) rfl) rfl, ⟨by decide, by decide, by decide +kernel⟩, by decide⟩
theorem im_X1_sendWaves : Cond.instanceMethod yX1_sendWaves ∈ pv_W := pv_mem (pv_m3 (i := 224) rfl) rfl
theorem se_X1_sendWaves : Cond.selects (pv_cn 1) yX1_sendWaves yX1_sendWaves ∈ pv_W := pv_mem (pv_m3 (i := 225) rfl) rfl
theorem md_X1_take : pv_MD yX1_take cX1_take 5 none 3 := ⟨pv_mem (pv_m3 (i := 189) rfl) rfl, pv_mem (pv_m1 (i := 14) rfl) rfl, ⟨by decide, by decide, by decide +kernel⟩, by decide⟩
theorem im_X1_take : Cond.instanceMethod yX1_take ∈ pv_W := pv_mem (pv_m3 (i := 187) rfl) rfl
theorem se_X1_take : Cond.selects (pv_cn 1) yX1_take yX1_take ∈ pv_W := pv_mem (pv_m3 (i := 188) rfl) rfl
theorem md_X2_init : pv_MD yX2_init cX2_init 1 none 0 := ⟨pv_mem (pv_m1 (i := 102) rfl) rfl, pv_mem (pv_m1 (i := 5) rfl) rfl, ⟨by decide, by decide, by decide +kernel⟩, by decide⟩
theorem im_X2_init : Cond.instanceMethod yX2_init ∈ pv_W := pv_mem (pv_m1 (i := 101) rfl) rfl
theorem md_X2_begin : pv_MD yX2_begin cX2_begin 1 none 0 := ⟨pv_mem (pv_m1 (i := 107) rfl) rfl, pv_mem (pv_m1 (i := 5) rfl) rfl, ⟨by decide, by decide, by decide +kernel⟩, by decide⟩
theorem im_X2_begin : Cond.instanceMethod yX2_begin ∈ pv_W := pv_mem (pv_m1 (i := 105) rfl) rfl
theorem se_X2_begin : Cond.selects (pv_cn 2) yX2_begin yX2_begin ∈ pv_W := pv_mem (pv_m1 (i := 106) rfl) rfl
theorem md_X2_copyFrom : pv_MD yX2_copyFrom cX2_copyFrom 2 none 1 := ⟨pv_mem (pv_m3 (i := 119) rfl) rfl, pv_mem (pv_m1 (i := 5) rfl) rfl, ⟨by decide, by decide, by decide +kernel⟩, by decide⟩
theorem im_X2_copyFrom : Cond.instanceMethod yX2_copyFrom ∈ pv_W := pv_mem (pv_m3 (i := 117) rfl) rfl
theorem se_X2_copyFrom : Cond.selects (pv_cn 2) yX2_copyFrom yX2_copyFrom ∈ pv_W := pv_mem (pv_m3 (i := 118) rfl) rfl
theorem md_X2_hitOn : pv_MD yX2_hitOn cX2_hitOn 4 (some .int) 2 := ⟨pv_mem (pv_m4 (i := 18) rfl) rfl, pv_mem (pv_m1 (i := 5) rfl) rfl, ⟨by decide, by decide, by decide +kernel⟩, by decide⟩
theorem im_X2_hitOn : Cond.instanceMethod yX2_hitOn ∈ pv_W := pv_mem (pv_m4 (i := 16) rfl) rfl
theorem se_X2_hitOn : Cond.selects (pv_cn 2) yX2_hitOn yX2_hitOn ∈ pv_W := pv_mem (pv_m4 (i := 17) rfl) rfl
theorem md_X2_offBy : pv_MD yX2_offBy cX2_offBy 2 (some .int) 1 := ⟨pv_mem (pv_m3 (i := 230) rfl) rfl, pv_mem (pv_m1 (i := 5) rfl) rfl, ⟨by decide, by decide, by decide +kernel⟩, by decide⟩
theorem im_X2_offBy : Cond.instanceMethod yX2_offBy ∈ pv_W := pv_mem (pv_m3 (i := 228) rfl) rfl
theorem se_X2_offBy : Cond.selects (pv_cn 2) yX2_offBy yX2_offBy ∈ pv_W := pv_mem (pv_m3 (i := 229) rfl) rfl
theorem md_X3_init : pv_MD yX3_init cX3_init 1 none 0 := ⟨pv_mem (pv_m1 (i := 129) rfl) rfl, pv_mem (pv_m1 (i := 7) rfl) rfl, ⟨by decide, by decide, by decide +kernel⟩, by decide⟩
theorem im_X3_init : Cond.instanceMethod yX3_init ∈ pv_W := pv_mem (pv_m1 (i := 128) rfl) rfl
theorem md_X3_begin : pv_MD yX3_begin cX3_begin 1 none 0 := ⟨pv_mem (pv_m3 (i := 85) rfl) rfl, pv_mem (pv_m1 (i := 7) rfl) rfl, ⟨by decide, by decide, by decide +kernel⟩, by decide⟩
theorem im_X3_begin : Cond.instanceMethod yX3_begin ∈ pv_W := pv_mem (pv_m3 (i := 83) rfl) rfl
theorem se_X3_begin : Cond.selects (pv_cn 3) yX3_begin yX3_begin ∈ pv_W := pv_mem (pv_m3 (i := 84) rfl) rfl
theorem md_X3_copyFrom : pv_MD yX3_copyFrom cX3_copyFrom 2 none 1 := ⟨pv_mem (pv_m3 (i := 123) rfl) rfl, pv_mem (pv_m1 (i := 7) rfl) rfl, ⟨by decide, by decide, by decide +kernel⟩, by decide⟩
theorem im_X3_copyFrom : Cond.instanceMethod yX3_copyFrom ∈ pv_W := pv_mem (pv_m3 (i := 121) rfl) rfl
theorem se_X3_copyFrom : Cond.selects (pv_cn 3) yX3_copyFrom yX3_copyFrom ∈ pv_W := pv_mem (pv_m3 (i := 122) rfl) rfl
theorem md_X3_isFact : pv_MD yX3_isFact cX3_isFact 4 (some .boolean) 3 := ⟨pv_mem (pv_m4 (i := 202) rfl) rfl, pv_mem (pv_m1 (i := 7) rfl) rfl, ⟨by decide, by decide, by decide +kernel⟩, by decide⟩
theorem st_X3_isFact : Cond.static yX3_isFact ∈ pv_W := pv_mem (pv_m4 (i := 201) rfl) rfl
theorem md_X3_isSo : pv_MD yX3_isSo cX3_isSo 5 (some .boolean) 2 := ⟨pv_mem (pv_m4 (i := 199) rfl) rfl, pv_mem (pv_m1 (i := 7) rfl) rfl, ⟨by decide, by decide, by decide +kernel⟩, by decide⟩
theorem im_X3_isSo : Cond.instanceMethod yX3_isSo ∈ pv_W := pv_mem (pv_m4 (i := 197) rfl) rfl
theorem se_X3_isSo : Cond.selects (pv_cn 3) yX3_isSo yX3_isSo ∈ pv_W := pv_mem (pv_m4 (i := 198) rfl) rfl
theorem md_X3_tell : pv_MD yX3_tell cX3_tell 4 none 2 := ⟨pv_mem (pv_m3 (i := 101) rfl) rfl, pv_mem (pv_m1 (i := 7) rfl) rfl, ⟨by decide, by decide, by decide +kernel⟩, by decide⟩
theorem im_X3_tell : Cond.instanceMethod yX3_tell ∈ pv_W := pv_mem (pv_m3 (i := 99) rfl) rfl
theorem se_X3_tell : Cond.selects (pv_cn 3) yX3_tell yX3_tell ∈ pv_W := pv_mem (pv_m3 (i := 100) rfl) rfl
theorem md_X4_init : pv_MD yX4_init cX4_init 1 none 0 := ⟨pv_mem (pv_m1 (i := 31) rfl) rfl, pv_mem (pv_m1 (i := 2) rfl) rfl, ⟨by decide, by decide, by decide +kernel⟩, by decide⟩
theorem im_X4_init : Cond.instanceMethod yX4_init ∈ pv_W := pv_mem (pv_m1 (i := 30) rfl) rfl
theorem md_X4_begin : pv_MD yX4_begin cX4_begin 2 none 1 := ⟨pv_mem (pv_m2 (i := 229) rfl) rfl, pv_mem (pv_m1 (i := 2) rfl) rfl, ⟨by decide, by decide, by decide +kernel⟩, by decide⟩
theorem im_X4_begin : Cond.instanceMethod yX4_begin ∈ pv_W := pv_mem (pv_m2 (i := 227) rfl) rfl
theorem se_X4_begin : Cond.selects (pv_cn 4) yX4_begin yX4_begin ∈ pv_W := pv_mem (pv_m2 (i := 228) rfl) rfl
theorem md_X4_expect : pv_MD yX4_expect cX4_expect 2 (some .boolean) 1 := ⟨pv_mem (pv_m3 (i := 28) rfl) rfl, pv_mem (pv_m1 (i := 2) rfl) rfl, ⟨by decide, by decide, by decide +kernel⟩, by decide⟩
theorem im_X4_expect : Cond.instanceMethod yX4_expect ∈ pv_W := pv_mem (pv_m3 (i := 27) rfl) rfl
theorem se_X4_expect : Cond.selects (pv_cn 4) yX4_expect yX4_expect ∈ pv_W := pv_mem (pv_m0 (i := 8) rfl) rfl
theorem md_X4_fail : pv_MD yX4_fail cX4_fail 2 (some .boolean) 1 := ⟨pv_mem (pv_m3 (i := 20) rfl) rfl, pv_mem (pv_m1 (i := 2) rfl) rfl, ⟨by decide, by decide, by decide +kernel⟩, by decide⟩
theorem im_X4_fail : Cond.instanceMethod yX4_fail ∈ pv_W := pv_mem (pv_m3 (i := 19) rfl) rfl
theorem se_X4_fail : Cond.selects (pv_cn 4) yX4_fail yX4_fail ∈ pv_W := pv_mem (pv_m0 (i := 7) rfl) rfl
theorem md_X4_isDigit : pv_MD yX4_isDigit cX4_isDigit 2 (some .boolean) 1 := ⟨pv_mem (pv_m3 (i := 8) rfl) rfl, pv_mem (pv_m1 (i := 2) rfl) rfl, ⟨by decide, by decide, by decide +kernel⟩, by decide⟩
theorem im_X4_isDigit : Cond.instanceMethod yX4_isDigit ∈ pv_W := pv_mem (pv_m3 (i := 7) rfl) rfl
theorem se_X4_isDigit : Cond.selects (pv_cn 4) yX4_isDigit yX4_isDigit ∈ pv_W := pv_mem (pv_m0 (i := 4) rfl) rfl
theorem md_X4_isLetter : pv_MD yX4_isLetter cX4_isLetter 2 (some .boolean) 1 := ⟨pv_mem (pv_m3 (i := 0) rfl) rfl, pv_mem (pv_m1 (i := 2) rfl) rfl, ⟨by decide, by decide, by decide +kernel⟩, by decide⟩
theorem im_X4_isLetter : Cond.instanceMethod yX4_isLetter ∈ pv_W := pv_mem (pv_m2 (i := 239) rfl) rfl
theorem se_X4_isLetter : Cond.selects (pv_cn 4) yX4_isLetter yX4_isLetter ∈ pv_W := pv_mem (pv_m0 (i := 2) rfl) rfl
theorem md_X4_next : pv_MD yX4_next cX4_next 1 none 0 := ⟨pv_mem (pv_m2 (i := 236) rfl) rfl, pv_mem (pv_m1 (i := 2) rfl) rfl, ⟨by decide, by decide, by decide +kernel⟩, by decide⟩
theorem im_X4_next : Cond.instanceMethod yX4_next ∈ pv_W := pv_mem (pv_m2 (i := 235) rfl) rfl
theorem se_X4_next : Cond.selects (pv_cn 4) yX4_next yX4_next ∈ pv_W := pv_mem (pv_m0 (i := 1) rfl) rfl
theorem md_X4_numberWithin : pv_MD yX4_numberWithin cX4_numberWithin 4 (some .int) 2 := ⟨pv_mem (pv_m3 (i := 36) rfl) rfl, pv_mem (pv_m1 (i := 2) rfl) rfl, ⟨by decide, by decide, by decide +kernel⟩, by decide⟩
theorem im_X4_numberWithin : Cond.instanceMethod yX4_numberWithin ∈ pv_W := pv_mem (pv_m3 (i := 35) rfl) rfl
theorem se_X4_numberWithin : Cond.selects (pv_cn 4) yX4_numberWithin yX4_numberWithin ∈ pv_W := pv_mem (pv_m0 (i := 9) rfl) rfl
theorem md_X4_put : pv_MD yX4_put cX4_put 3 none 1 := ⟨pv_mem (pv_m2 (i := 218) rfl) rfl, pv_mem (pv_m1 (i := 2) rfl) rfl, ⟨by decide, by decide, by decide +kernel⟩, by decide⟩
theorem im_X4_put : Cond.instanceMethod yX4_put ∈ pv_W := pv_mem (pv_m2 (i := 216) rfl) rfl
theorem se_X4_put : Cond.selects (pv_cn 4) yX4_put yX4_put ∈ pv_W := pv_mem (pv_m2 (i := 217) rfl) rfl
theorem md_X4_readAllOf : pv_MD yX4_readAllOf cX4_readAllOf 4 (some .boolean) 1 := ⟨pv_mem (pv_m3 (i := 93) rfl) rfl, pv_mem (pv_m1 (i := 2) rfl) rfl, ⟨by decide, by decide, by decide +kernel⟩, by decide⟩
theorem im_X4_readAllOf : Cond.instanceMethod yX4_readAllOf ∈ pv_W := pv_mem (pv_m3 (i := 92) rfl) rfl
theorem se_X4_readAllOf : Cond.selects (pv_cn 4) yX4_readAllOf yX4_readAllOf ∈ pv_W := pv_mem (pv_m0 (i := 15) rfl) rfl
theorem md_X4_readAnyOf : pv_MD yX4_readAnyOf cX4_readAnyOf 4 (some .boolean) 1 := ⟨pv_mem (pv_m3 (i := 89) rfl) rfl, pv_mem (pv_m1 (i := 2) rfl) rfl, ⟨by decide, by decide, by decide +kernel⟩, by decide⟩
theorem im_X4_readAnyOf : Cond.instanceMethod yX4_readAnyOf ∈ pv_W := pv_mem (pv_m3 (i := 88) rfl) rfl
theorem se_X4_readAnyOf : Cond.selects (pv_cn 4) yX4_readAnyOf yX4_readAnyOf ∈ pv_W := pv_mem (pv_m0 (i := 14) rfl) rfl
theorem md_X4_readDoings : pv_MD yX4_readDoings cX4_readDoings 2 (some .int) 0 := ⟨pv_mem (pv_m3 (i := 60) rfl) rfl, pv_mem (pv_m1 (i := 2) rfl) rfl, ⟨by decide, by decide, by decide +kernel⟩, by decide⟩
theorem im_X4_readDoings : Cond.instanceMethod yX4_readDoings ∈ pv_W := pv_mem (pv_m3 (i := 58) rfl) rfl
theorem se_X4_readDoings : Cond.selects (pv_cn 4) yX4_readDoings yX4_readDoings ∈ pv_W := pv_mem (pv_m3 (i := 59) rfl) rfl
theorem md_X4_readFact : pv_MD yX4_readFact cX4_readFact 4 (some .boolean) 1 := ⟨pv_mem (pv_m3 (i := 97) rfl) rfl, pv_mem (pv_m1 (i := 2) rfl) rfl, ⟨by decide, by decide, by decide +kernel⟩, by decide⟩
theorem im_X4_readFact : Cond.instanceMethod yX4_readFact ∈ pv_W := pv_mem (pv_m3 (i := 96) rfl) rfl
theorem se_X4_readFact : Cond.selects (pv_cn 4) yX4_readFact yX4_readFact ∈ pv_W := pv_mem (pv_m0 (i := 16) rfl) rfl
theorem md_X4_readLaw : pv_MD yX4_readLaw cX4_readLaw 2 (some .int) 0 := ⟨pv_mem (pv_m3 (i := 72) rfl) rfl, pv_mem (pv_m1 (i := 2) rfl) rfl, ⟨by decide, by decide, by decide +kernel⟩, by decide⟩
theorem im_X4_readLaw : Cond.instanceMethod yX4_readLaw ∈ pv_W := pv_mem (pv_m3 (i := 70) rfl) rfl
theorem se_X4_readLaw : Cond.selects (pv_cn 4) yX4_readLaw yX4_readLaw ∈ pv_W := pv_mem (pv_m3 (i := 71) rfl) rfl
theorem md_X4_readLawLine : pv_MD yX4_readLawLine cX4_readLawLine 4 (some .boolean) 1 := ⟨pv_mem (pv_m3 (i := 77) rfl) rfl, pv_mem (pv_m1 (i := 2) rfl) rfl, ⟨by decide, by decide, by decide +kernel⟩, by decide⟩
theorem im_X4_readLawLine : Cond.instanceMethod yX4_readLawLine ∈ pv_W := pv_mem (pv_m3 (i := 76) rfl) rfl
theorem se_X4_readLawLine : Cond.selects (pv_cn 4) yX4_readLawLine yX4_readLawLine ∈ pv_W := pv_mem (pv_m0 (i := 13) rfl) rfl
theorem md_X4_readLooks : pv_MD yX4_readLooks cX4_readLooks 2 (some .int) 0 := ⟨pv_mem (pv_m3 (i := 81) rfl) rfl, pv_mem (pv_m1 (i := 2) rfl) rfl, ⟨by decide, by decide, by decide +kernel⟩, by decide⟩
theorem im_X4_readLooks : Cond.instanceMethod yX4_readLooks ∈ pv_W := pv_mem (pv_m3 (i := 79) rfl) rfl
theorem se_X4_readLooks : Cond.selects (pv_cn 4) yX4_readLooks yX4_readLooks ∈ pv_W := pv_mem (pv_m3 (i := 80) rfl) rfl
theorem md_X4_readRod : pv_MD yX4_readRod cX4_readRod 3 (some .int) 0 := ⟨pv_mem (pv_m3 (i := 24) rfl) rfl, pv_mem (pv_m1 (i := 2) rfl) rfl, ⟨by decide, by decide, by decide +kernel⟩, by decide⟩
theorem im_X4_readRod : Cond.instanceMethod yX4_readRod ∈ pv_W := pv_mem (pv_m3 (i := 22) rfl) rfl
theorem se_X4_readRod : Cond.selects (pv_cn 4) yX4_readRod yX4_readRod ∈ pv_W := pv_mem (pv_m3 (i := 23) rfl) rfl
theorem md_X4_readRodLine : pv_MD yX4_readRodLine cX4_readRodLine 4 (some .boolean) 1 := ⟨pv_mem (pv_m3 (i := 48) rfl) rfl, pv_mem (pv_m1 (i := 2) rfl) rfl, ⟨by decide, by decide, by decide +kernel⟩, by decide⟩
theorem im_X4_readRodLine : Cond.instanceMethod yX4_readRodLine ∈ pv_W := pv_mem (pv_m3 (i := 47) rfl) rfl
theorem se_X4_readRodLine : Cond.selects (pv_cn 4) yX4_readRodLine yX4_readRodLine ∈ pv_W := pv_mem (pv_m0 (i := 10) rfl) rfl
theorem md_X4_readSpans : pv_MD yX4_readSpans cX4_readSpans 6 (some .boolean) 2 := ⟨pv_mem (pv_m3 (i := 52) rfl) rfl, pv_mem (pv_m1 (i := 2) rfl) rfl, ⟨by decide, by decide, by decide +kernel⟩, by decide⟩
theorem im_X4_readSpans : Cond.instanceMethod yX4_readSpans ∈ pv_W := pv_mem (pv_m3 (i := 51) rfl) rfl
theorem se_X4_readSpans : Cond.selects (pv_cn 4) yX4_readSpans yX4_readSpans ∈ pv_W := pv_mem (pv_m0 (i := 11) rfl) rfl
theorem md_X4_readStep : pv_MD yX4_readStep cX4_readStep 5 (some .boolean) 1 := ⟨pv_mem (pv_m3 (i := 64) rfl) rfl, pv_mem (pv_m1 (i := 2) rfl) rfl, ⟨by decide, by decide, by decide +kernel⟩, by decide⟩
theorem im_X4_readStep : Cond.instanceMethod yX4_readStep ∈ pv_W := pv_mem (pv_m3 (i := 63) rfl) rfl
theorem se_X4_readStep : Cond.selects (pv_cn 4) yX4_readStep yX4_readStep ∈ pv_W := pv_mem (pv_m0 (i := 12) rfl) rfl
theorem md_X4_takeNumber : pv_MD yX4_takeNumber cX4_takeNumber 1 none 0 := ⟨pv_mem (pv_m3 (i := 12) rfl) rfl, pv_mem (pv_m1 (i := 2) rfl) rfl, ⟨by decide, by decide, by decide +kernel⟩, by decide⟩
theorem im_X4_takeNumber : Cond.instanceMethod yX4_takeNumber ∈ pv_W := pv_mem (pv_m3 (i := 11) rfl) rfl
theorem se_X4_takeNumber : Cond.selects (pv_cn 4) yX4_takeNumber yX4_takeNumber ∈ pv_W := pv_mem (pv_m0 (i := 5) rfl) rfl
theorem md_X4_takeSign : pv_MD yX4_takeSign cX4_takeSign 2 none 0 := ⟨pv_mem (pv_m3 (i := 16) rfl) rfl, pv_mem (pv_m1 (i := 2) rfl) rfl, ⟨by decide, by decide, by decide +kernel⟩, by decide⟩
theorem im_X4_takeSign : Cond.instanceMethod yX4_takeSign ∈ pv_W := pv_mem (pv_m3 (i := 15) rfl) rfl
theorem se_X4_takeSign : Cond.selects (pv_cn 4) yX4_takeSign yX4_takeSign ∈ pv_W := pv_mem (pv_m0 (i := 6) rfl) rfl
theorem md_X4_wordFrom : pv_MD yX4_wordFrom cX4_wordFrom 7 (some .int) 2 := ⟨pv_mem (pv_m3 (i := 4) rfl) rfl, pv_mem (pv_m1 (i := 2) rfl) rfl, ⟨by decide, by decide, by decide +kernel⟩, by decide⟩
theorem im_X4_wordFrom : Cond.instanceMethod yX4_wordFrom ∈ pv_W := pv_mem (pv_m3 (i := 3) rfl) rfl
theorem se_X4_wordFrom : Cond.selects (pv_cn 4) yX4_wordFrom yX4_wordFrom ∈ pv_W := pv_mem (pv_m0 (i := 3) rfl) rfl
theorem md_X5_init : pv_MD yX5_init cX5_init 1 none 0 := ⟨pv_mem (pv_m1 (i := 37) rfl) rfl, pv_mem (pv_m1 (i := 3) rfl) rfl, ⟨by decide, by decide, by decide +kernel⟩, by decide⟩
theorem im_X5_init : Cond.instanceMethod yX5_init ∈ pv_W := pv_mem (pv_m1 (i := 36) rfl) rfl
theorem md_X5_begin : pv_MD yX5_begin cX5_begin 4 none 1 := ⟨pv_mem (pv_m3 (i := 40) rfl) rfl, pv_mem (pv_m1 (i := 3) rfl) rfl, ⟨by decide, by decide, by decide +kernel⟩, by decide⟩
theorem im_X5_begin : Cond.instanceMethod yX5_begin ∈ pv_W := pv_mem (pv_m3 (i := 38) rfl) rfl
theorem se_X5_begin : Cond.selects (pv_cn 5) yX5_begin yX5_begin ∈ pv_W := pv_mem (pv_m3 (i := 39) rfl) rfl
theorem md_X5_copyFrom : pv_MD yX5_copyFrom cX5_copyFrom 2 none 1 := ⟨pv_mem (pv_m3 (i := 109) rfl) rfl, pv_mem (pv_m1 (i := 3) rfl) rfl, ⟨by decide, by decide, by decide +kernel⟩, by decide⟩
theorem im_X5_copyFrom : Cond.instanceMethod yX5_copyFrom ∈ pv_W := pv_mem (pv_m3 (i := 107) rfl) rfl
theorem se_X5_copyFrom : Cond.selects (pv_cn 5) yX5_copyFrom yX5_copyFrom ∈ pv_W := pv_mem (pv_m3 (i := 108) rfl) rfl
theorem md_X5_drawStrengths : pv_MD yX5_drawStrengths cX5_drawStrengths 7 none 2 := ⟨pv_mem (pv_m3 (i := 152) rfl) rfl, pv_mem (pv_m1 (i := 3) rfl) rfl, ⟨by decide, by decide, by decide +kernel⟩, by decide⟩
theorem im_X5_drawStrengths : Cond.instanceMethod yX5_drawStrengths ∈ pv_W := pv_mem (pv_m3 (i := 150) rfl) rfl
theorem se_X5_drawStrengths : Cond.selects (pv_cn 5) yX5_drawStrengths yX5_drawStrengths ∈ pv_W := pv_mem (pv_m3 (i := 151) rfl) rfl
theorem md_X5_takeCell : pv_MD yX5_takeCell cX5_takeCell 4 none 3 := ⟨pv_mem (pv_m4 (i := 154) rfl) rfl, pv_mem (pv_m1 (i := 3) rfl) rfl, ⟨by decide, by decide, by decide +kernel⟩, by decide⟩
theorem im_X5_takeCell : Cond.instanceMethod yX5_takeCell ∈ pv_W := pv_mem (pv_m4 (i := 152) rfl) rfl
theorem se_X5_takeCell : Cond.selects (pv_cn 5) yX5_takeCell yX5_takeCell ∈ pv_W := pv_mem (pv_m4 (i := 153) rfl) rfl
theorem md_X5_tell : pv_MD yX5_tell cX5_tell 7 none 4 := ⟨pv_mem (pv_m3 (i := 56) rfl) rfl, pv_mem (pv_m1 (i := 3) rfl) rfl, ⟨by decide, by decide, by decide +kernel⟩, by decide⟩
theorem im_X5_tell : Cond.instanceMethod yX5_tell ∈ pv_W := pv_mem (pv_m3 (i := 54) rfl) rfl
theorem se_X5_tell : Cond.selects (pv_cn 5) yX5_tell yX5_tell ∈ pv_W := pv_mem (pv_m3 (i := 55) rfl) rfl
theorem md_X6_init : pv_MD yX6_init cX6_init 1 none 0 := ⟨pv_mem (pv_m2 (i := 162) rfl) rfl, pv_mem (pv_m1 (i := 15) rfl) rfl, ⟨by decide, by decide, by decide +kernel⟩, by decide⟩
theorem im_X6_init : Cond.instanceMethod yX6_init ∈ pv_W := pv_mem (pv_m2 (i := 161) rfl) rfl
theorem md_X6_begin : pv_MD yX6_begin cX6_begin 3 none 2 := ⟨pv_mem (pv_m5 (i := 20) rfl) rfl, pv_mem (pv_m1 (i := 15) rfl) rfl, ⟨by decide, by decide, by decide +kernel⟩, by decide⟩
theorem im_X6_begin : Cond.instanceMethod yX6_begin ∈ pv_W := pv_mem (pv_m5 (i := 18) rfl) rfl
theorem se_X6_begin : Cond.selects (pv_cn 6) yX6_begin yX6_begin ∈ pv_W := pv_mem (pv_m5 (i := 19) rfl) rfl
theorem md_X6_put : pv_MD yX6_put cX6_put 6 (some .long) 2 := ⟨pv_mem (pv_m5 (i := 31) rfl) rfl, pv_mem (pv_m1 (i := 15) rfl) rfl, ⟨by decide, by decide, by decide +kernel⟩, by decide⟩
theorem im_X6_put : Cond.instanceMethod yX6_put ∈ pv_W := pv_mem (pv_m5 (i := 29) rfl) rfl
theorem se_X6_put : Cond.selects (pv_cn 6) yX6_put yX6_put ∈ pv_W := pv_mem (pv_m5 (i := 30) rfl) rfl
theorem md_X7_init : pv_MD yX7_init cX7_init 1 none 0 := ⟨pv_mem (pv_m2 (i := 26) rfl) rfl, pv_mem (pv_m1 (i := 13) rfl) rfl, ⟨by decide, by decide, by decide +kernel⟩, by decide⟩
theorem im_X7_init : Cond.instanceMethod yX7_init ∈ pv_W := pv_mem (pv_m2 (i := 25) rfl) rfl
theorem md_X7_breakAt : pv_MD yX7_breakAt cX7_breakAt 3 (some .int) 1 := ⟨pv_mem (pv_m4 (i := 109) rfl) rfl, pv_mem (pv_m1 (i := 13) rfl) rfl, ⟨by decide, by decide, by decide +kernel⟩, by decide⟩
theorem im_X7_breakAt : Cond.instanceMethod yX7_breakAt ∈ pv_W := pv_mem (pv_m4 (i := 107) rfl) rfl
theorem se_X7_breakAt : Cond.selects (pv_cn 7) yX7_breakAt yX7_breakAt ∈ pv_W := pv_mem (pv_m4 (i := 108) rfl) rfl
theorem md_X7_breaksOfKind : pv_MD yX7_breaksOfKind cX7_breaksOfKind 4 (some .int) 1 := ⟨pv_mem (pv_m4 (i := 210) rfl) rfl, pv_mem (pv_m1 (i := 13) rfl) rfl, ⟨by decide, by decide, by decide +kernel⟩, by decide⟩
theorem im_X7_breaksOfKind : Cond.instanceMethod yX7_breaksOfKind ∈ pv_W := pv_mem (pv_m4 (i := 208) rfl) rfl
theorem se_X7_breaksOfKind : Cond.selects (pv_cn 7) yX7_breaksOfKind yX7_breaksOfKind ∈ pv_W := pv_mem (pv_m4 (i := 209) rfl) rfl
theorem md_X7_causeAt : pv_MD yX7_causeAt cX7_causeAt 3 (some .int) 1 := ⟨pv_mem (pv_m5 (i := 11) rfl) rfl, pv_mem (pv_m1 (i := 13) rfl) rfl, ⟨by decide, by decide, by decide +kernel⟩, by decide⟩
theorem im_X7_causeAt : Cond.instanceMethod yX7_causeAt ∈ pv_W := pv_mem (pv_m5 (i := 10) rfl) rfl
theorem se_X7_causeAt : Cond.selects (pv_cn 7) yX7_causeAt yX7_causeAt ∈ pv_W := pv_mem (pv_m0 (i := 38) rfl) rfl
theorem md_X7_cellOf : pv_MD yX7_cellOf cX7_cellOf 2 (some .int) 1 := ⟨pv_mem (pv_m4 (i := 63) rfl) rfl, pv_mem (pv_m1 (i := 13) rfl) rfl, ⟨by decide, by decide, by decide +kernel⟩, by decide⟩
theorem im_X7_cellOf : Cond.instanceMethod yX7_cellOf ∈ pv_W := pv_mem (pv_m4 (i := 61) rfl) rfl
theorem se_X7_cellOf : Cond.selects (pv_cn 7) yX7_cellOf yX7_cellOf ∈ pv_W := pv_mem (pv_m4 (i := 62) rfl) rfl
theorem md_X7_copyFrom : pv_MD yX7_copyFrom cX7_copyFrom 2 none 1 := ⟨pv_mem (pv_m4 (i := 30) rfl) rfl, pv_mem (pv_m1 (i := 13) rfl) rfl, ⟨by decide, by decide, by decide +kernel⟩, by decide⟩
theorem im_X7_copyFrom : Cond.instanceMethod yX7_copyFrom ∈ pv_W := pv_mem (pv_m4 (i := 28) rfl) rfl
theorem se_X7_copyFrom : Cond.selects (pv_cn 7) yX7_copyFrom yX7_copyFrom ∈ pv_W := pv_mem (pv_m4 (i := 29) rfl) rfl
theorem md_X7_flightOf : pv_MD yX7_flightOf cX7_flightOf 4 (some .int) 1 := ⟨pv_mem (pv_m5 (i := 7) rfl) rfl, pv_mem (pv_m1 (i := 13) rfl) rfl, ⟨by decide, by decide, by decide +kernel⟩, by decide⟩
theorem im_X7_flightOf : Cond.instanceMethod yX7_flightOf ∈ pv_W := pv_mem (pv_m5 (i := 5) rfl) rfl
theorem se_X7_flightOf : Cond.selects (pv_cn 7) yX7_flightOf yX7_flightOf ∈ pv_W := pv_mem (pv_m5 (i := 6) rfl) rfl
theorem md_X7_hasPieces : pv_MD yX7_hasPieces cX7_hasPieces 4 (some .boolean) 1 := ⟨pv_mem (pv_m4 (i := 187) rfl) rfl, pv_mem (pv_m1 (i := 13) rfl) rfl, ⟨by decide, by decide, by decide +kernel⟩, by decide⟩
theorem im_X7_hasPieces : Cond.instanceMethod yX7_hasPieces ∈ pv_W := pv_mem (pv_m4 (i := 185) rfl) rfl
theorem se_X7_hasPieces : Cond.selects (pv_cn 7) yX7_hasPieces yX7_hasPieces ∈ pv_W := pv_mem (pv_m4 (i := 186) rfl) rfl
theorem md_X7_holdsTicks : pv_MD yX7_holdsTicks cX7_holdsTicks 4 (some .boolean) 1 := ⟨pv_mem (pv_m4 (i := 77) rfl) rfl, pv_mem (pv_m1 (i := 13) rfl) rfl, ⟨by decide, by decide, by decide +kernel⟩, by decide⟩
theorem im_X7_holdsTicks : Cond.instanceMethod yX7_holdsTicks ∈ pv_W := pv_mem (pv_m4 (i := 75) rfl) rfl
theorem se_X7_holdsTicks : Cond.selects (pv_cn 7) yX7_holdsTicks yX7_holdsTicks ∈ pv_W := pv_mem (pv_m4 (i := 76) rfl) rfl
theorem md_X7_kindOf : pv_MD yX7_kindOf cX7_kindOf 2 (some .int) 1 := ⟨pv_mem (pv_m4 (i := 206) rfl) rfl, pv_mem (pv_m1 (i := 13) rfl) rfl, ⟨by decide, by decide, by decide +kernel⟩, by decide⟩
theorem im_X7_kindOf : Cond.instanceMethod yX7_kindOf ∈ pv_W := pv_mem (pv_m4 (i := 204) rfl) rfl
theorem se_X7_kindOf : Cond.selects (pv_cn 7) yX7_kindOf yX7_kindOf ∈ pv_W := pv_mem (pv_m4 (i := 205) rfl) rfl
theorem md_X7_longestPiece : pv_MD yX7_longestPiece cX7_longestPiece 3 (some .int) 0 := ⟨pv_mem (pv_m4 (i := 216) rfl) rfl, pv_mem (pv_m1 (i := 13) rfl) rfl, ⟨by decide, by decide, by decide +kernel⟩, by decide⟩
theorem im_X7_longestPiece : Cond.instanceMethod yX7_longestPiece ∈ pv_W := pv_mem (pv_m4 (i := 214) rfl) rfl
theorem se_X7_longestPiece : Cond.selects (pv_cn 7) yX7_longestPiece yX7_longestPiece ∈ pv_W := pv_mem (pv_m4 (i := 215) rfl) rfl
theorem md_X7_shortestPiece : pv_MD yX7_shortestPiece cX7_shortestPiece 3 (some .int) 0 := ⟨pv_mem (pv_m4 (i := 221) rfl) rfl, pv_mem (pv_m1 (i := 13) rfl) rfl, ⟨by decide, by decide, by decide +kernel⟩, by decide⟩
theorem im_X7_shortestPiece : Cond.instanceMethod yX7_shortestPiece ∈ pv_W := pv_mem (pv_m4 (i := 219) rfl) rfl
theorem se_X7_shortestPiece : Cond.selects (pv_cn 7) yX7_shortestPiece yX7_shortestPiece ∈ pv_W := pv_mem (pv_m4 (i := 220) rfl) rfl
theorem md_X7_tickOf : pv_MD yX7_tickOf cX7_tickOf 2 (some .int) 1 := ⟨pv_mem (pv_m4 (i := 81) rfl) rfl, pv_mem (pv_m1 (i := 13) rfl) rfl, ⟨by decide, by decide, by decide +kernel⟩, by decide⟩
theorem im_X7_tickOf : Cond.instanceMethod yX7_tickOf ∈ pv_W := pv_mem (pv_m4 (i := 79) rfl) rfl
theorem se_X7_tickOf : Cond.selects (pv_cn 7) yX7_tickOf yX7_tickOf ∈ pv_W := pv_mem (pv_m4 (i := 80) rfl) rfl
theorem md_X7_turnAhead : pv_MD yX7_turnAhead cX7_turnAhead 1 (some .int) 0 := ⟨pv_mem (pv_m4 (i := 59) rfl) rfl, pv_mem (pv_m1 (i := 13) rfl) rfl, ⟨by decide, by decide, by decide +kernel⟩, by decide⟩
theorem im_X7_turnAhead : Cond.instanceMethod yX7_turnAhead ∈ pv_W := pv_mem (pv_m4 (i := 57) rfl) rfl
theorem se_X7_turnAhead : Cond.selects (pv_cn 7) yX7_turnAhead yX7_turnAhead ∈ pv_W := pv_mem (pv_m4 (i := 58) rfl) rfl
theorem md_X8_init : pv_MD yX8_init cX8_init 2 none 0 := ⟨pv_mem (pv_m2 (i := 12) rfl) rfl, pv_mem (pv_m1 (i := 12) rfl) rfl, ⟨by decide, by decide, by decide +kernel⟩, by decide⟩
theorem im_X8_init : Cond.instanceMethod yX8_init ∈ pv_W := pv_mem (pv_m2 (i := 11) rfl) rfl
theorem md_X8_copyFrom : pv_MD yX8_copyFrom cX8_copyFrom 3 none 1 := ⟨pv_mem (pv_m5 (i := 44) rfl) rfl, pv_mem (pv_m1 (i := 12) rfl) rfl, ⟨by decide, by decide, by decide +kernel⟩, by decide⟩
theorem im_X8_copyFrom : Cond.instanceMethod yX8_copyFrom ∈ pv_W := pv_mem (pv_m5 (i := 42) rfl) rfl
theorem se_X8_copyFrom : Cond.selects (pv_cn 8) yX8_copyFrom yX8_copyFrom ∈ pv_W := pv_mem (pv_m5 (i := 43) rfl) rfl
theorem md_X8_rodsThere : pv_MD yX8_rodsThere cX8_rodsThere 3 (some .int) 0 := ⟨pv_mem (pv_m5 (i := 65) rfl) rfl, pv_mem (pv_m1 (i := 12) rfl) rfl, ⟨by decide, by decide, by decide +kernel⟩, by decide⟩
theorem im_X8_rodsThere : Cond.instanceMethod yX8_rodsThere ∈ pv_W := pv_mem (pv_m5 (i := 63) rfl) rfl
theorem se_X8_rodsThere : Cond.selects (pv_cn 8) yX8_rodsThere yX8_rodsThere ∈ pv_W := pv_mem (pv_m5 (i := 64) rfl) rfl
theorem md_X10_init : pv_MD yX10_init cX10_init 1 none 0 := ⟨pv_mem (pv_m5 (i := 71) rfl) rfl, pv_mem (pv_m1 (i := 16) rfl) rfl, ⟨by decide, by decide, by decide +kernel⟩, by decide⟩
theorem im_X10_init : Cond.instanceMethod yX10_init ∈ pv_W := pv_mem (pv_m5 (i := 70) rfl) rfl
theorem md_X10_acts : pv_MD yX10_acts cX10_acts 2 none 1 := ⟨pv_mem (pv_m6 (i := 222) rfl) rfl, pv_mem (pv_m1 (i := 16) rfl) rfl, ⟨by decide, by decide, by decide +kernel⟩, by decide⟩
theorem im_X10_acts : Cond.instanceMethod yX10_acts ∈ pv_W := pv_mem (pv_m6 (i := 221) rfl) rfl
theorem se_X10_acts : Cond.selects (pv_cn 10) yX10_acts yX10_acts ∈ pv_W := pv_mem (pv_m0 (i := 65) rfl) rfl
theorem md_X10_begins : pv_MD yX10_begins cX10_begins 6 none 5 := ⟨pv_mem (pv_m7 (i := 31) rfl) rfl, pv_mem (pv_m1 (i := 16) rfl) rfl, ⟨by decide, by decide, by decide +kernel⟩, by decide⟩
theorem im_X10_begins : Cond.instanceMethod yX10_begins ∈ pv_W := pv_mem (pv_m7 (i := 30) rfl) rfl
theorem se_X10_begins : Cond.selects (pv_cn 10) yX10_begins yX10_begins ∈ pv_W := pv_mem (pv_m0 (i := 75) rfl) rfl
theorem md_X10_bendOf : pv_MD yX10_bendOf cX10_bendOf 5 (some .int) 1 := ⟨pv_mem (pv_m7 (i := 6) rfl) rfl, pv_mem (pv_m1 (i := 16) rfl) rfl, ⟨by decide, by decide, by decide +kernel⟩, by decide⟩
theorem im_X10_bendOf : Cond.instanceMethod yX10_bendOf ∈ pv_W := pv_mem (pv_m7 (i := 5) rfl) rfl
theorem se_X10_bendOf : Cond.selects (pv_cn 10) yX10_bendOf yX10_bendOf ∈ pv_W := pv_mem (pv_m0 (i := 70) rfl) rfl
theorem md_X10_bent : pv_MD yX10_bent cX10_bent 5 (some .int) 3 := ⟨pv_mem (pv_m6 (i := 206) rfl) rfl, pv_mem (pv_m1 (i := 16) rfl) rfl, ⟨by decide, by decide, by decide +kernel⟩, by decide⟩
theorem im_X10_bent : Cond.instanceMethod yX10_bent ∈ pv_W := pv_mem (pv_m6 (i := 204) rfl) rfl
theorem se_X10_bent : Cond.selects (pv_cn 10) yX10_bent yX10_bent ∈ pv_W := pv_mem (pv_m6 (i := 205) rfl) rfl
theorem md_X10_beside : pv_MD yX10_beside cX10_beside 5 (some .int) 4 := ⟨pv_mem (pv_m7 (i := 146) rfl) rfl, pv_mem (pv_m1 (i := 16) rfl) rfl, ⟨by decide, by decide, by decide +kernel⟩, by decide⟩
theorem im_X10_beside : Cond.instanceMethod yX10_beside ∈ pv_W := pv_mem (pv_m7 (i := 144) rfl) rfl
theorem se_X10_beside : Cond.selects (pv_cn 10) yX10_beside yX10_beside ∈ pv_W := pv_mem (pv_m7 (i := 145) rfl) rfl
theorem md_X10_besideOf : pv_MD yX10_besideOf cX10_besideOf 6 (some .int) 4 := ⟨pv_mem (pv_m7 (i := 150) rfl) rfl, pv_mem (pv_m1 (i := 16) rfl) rfl, ⟨by decide, by decide, by decide +kernel⟩, by decide⟩
theorem im_X10_besideOf : Cond.instanceMethod yX10_besideOf ∈ pv_W := pv_mem (pv_m7 (i := 149) rfl) rfl
theorem se_X10_besideOf : Cond.selects (pv_cn 10) yX10_besideOf yX10_besideOf ∈ pv_W := pv_mem (pv_m0 (i := 85) rfl) rfl
theorem md_X10_beyond : pv_MD yX10_beyond cX10_beyond 5 (some .int) 4 := ⟨pv_mem (pv_m7 (i := 85) rfl) rfl, pv_mem (pv_m1 (i := 16) rfl) rfl, ⟨by decide, by decide, by decide +kernel⟩, by decide⟩
theorem im_X10_beyond : Cond.instanceMethod yX10_beyond ∈ pv_W := pv_mem (pv_m7 (i := 83) rfl) rfl
theorem se_X10_beyond : Cond.selects (pv_cn 10) yX10_beyond yX10_beyond ∈ pv_W := pv_mem (pv_m7 (i := 84) rfl) rfl
theorem md_X10_breaks : pv_MD yX10_breaks cX10_breaks 6 none 4 := ⟨pv_mem (pv_m7 (i := 22) rfl) rfl, pv_mem (pv_m1 (i := 16) rfl) rfl, ⟨by decide, by decide, by decide +kernel⟩, by decide⟩
theorem im_X10_breaks : Cond.instanceMethod yX10_breaks ∈ pv_W := pv_mem (pv_m7 (i := 21) rfl) rfl
theorem se_X10_breaks : Cond.selects (pv_cn 10) yX10_breaks yX10_breaks ∈ pv_W := pv_mem (pv_m0 (i := 74) rfl) rfl
theorem md_X10_broke : pv_MD yX10_broke cX10_broke 3 (some .int) 2 := ⟨pv_mem (pv_m7 (i := 55) rfl) rfl, pv_mem (pv_m1 (i := 16) rfl) rfl, ⟨by decide, by decide, by decide +kernel⟩, by decide⟩
theorem im_X10_broke : Cond.instanceMethod yX10_broke ∈ pv_W := pv_mem (pv_m7 (i := 53) rfl) rfl
theorem se_X10_broke : Cond.selects (pv_cn 10) yX10_broke yX10_broke ∈ pv_W := pv_mem (pv_m7 (i := 54) rfl) rfl
theorem md_X10_brokenBy : pv_MD yX10_brokenBy cX10_brokenBy 3 (some .int) 1 := ⟨pv_mem (pv_m7 (i := 218) rfl) rfl, pv_mem (pv_m1 (i := 16) rfl) rfl, ⟨by decide, by decide, by decide +kernel⟩, by decide⟩
theorem im_X10_brokenBy : Cond.instanceMethod yX10_brokenBy ∈ pv_W := pv_mem (pv_m7 (i := 217) rfl) rfl
theorem se_X10_brokenBy : Cond.selects (pv_cn 10) yX10_brokenBy yX10_brokenBy ∈ pv_W := pv_mem (pv_m0 (i := 93) rfl) rfl
theorem md_X10_cell : pv_MD yX10_cell cX10_cell 4 (some .int) 3 := ⟨pv_mem (pv_m6 (i := 184) rfl) rfl, pv_mem (pv_m1 (i := 16) rfl) rfl, ⟨by decide, by decide, by decide +kernel⟩, by decide⟩
theorem im_X10_cell : Cond.instanceMethod yX10_cell ∈ pv_W := pv_mem (pv_m6 (i := 182) rfl) rfl
theorem se_X10_cell : Cond.selects (pv_cn 10) yX10_cell yX10_cell ∈ pv_W := pv_mem (pv_m6 (i := 183) rfl) rfl
theorem md_X10_comes : pv_MD yX10_comes cX10_comes 9 none 3 := ⟨pv_mem (pv_m7 (i := 39) rfl) rfl, pv_mem (pv_m1 (i := 16) rfl) rfl, ⟨by decide, by decide, by decide +kernel⟩, by decide⟩
theorem im_X10_comes : Cond.instanceMethod yX10_comes ∈ pv_W := pv_mem (pv_m7 (i := 38) rfl) rfl
theorem se_X10_comes : Cond.selects (pv_cn 10) yX10_comes yX10_comes ∈ pv_W := pv_mem (pv_m0 (i := 77) rfl) rfl
theorem md_X10_count : pv_MD yX10_count cX10_count 2 (some .int) 1 := ⟨pv_mem (pv_m8 (i := 9) rfl) rfl, pv_mem (pv_m1 (i := 16) rfl) rfl, ⟨by decide, by decide, by decide +kernel⟩, by decide⟩
theorem im_X10_count : Cond.instanceMethod yX10_count ∈ pv_W := pv_mem (pv_m8 (i := 7) rfl) rfl
theorem se_X10_count : Cond.selects (pv_cn 10) yX10_count yX10_count ∈ pv_W := pv_mem (pv_m8 (i := 8) rfl) rfl
theorem md_X10_cut : pv_MD yX10_cut cX10_cut 3 (some .long) 2 := ⟨pv_mem (pv_m7 (i := 229) rfl) rfl, pv_mem (pv_m1 (i := 16) rfl) rfl, ⟨by decide, by decide, by decide +kernel⟩, by decide⟩
theorem st_X10_cut : Cond.static yX10_cut ∈ pv_W := pv_mem (pv_m7 (i := 228) rfl) rfl
theorem md_X10_cuts : pv_MD yX10_cuts cX10_cuts 3 none 0 := ⟨pv_mem (pv_m7 (i := 51) rfl) rfl, pv_mem (pv_m1 (i := 16) rfl) rfl, ⟨by decide, by decide, by decide +kernel⟩, by decide⟩
theorem im_X10_cuts : Cond.instanceMethod yX10_cuts ∈ pv_W := pv_mem (pv_m7 (i := 50) rfl) rfl
theorem se_X10_cuts : Cond.selects (pv_cn 10) yX10_cuts yX10_cuts ∈ pv_W := pv_mem (pv_m0 (i := 80) rfl) rfl
theorem md_X10_does : pv_MD yX10_does cX10_does 5 none 2 := ⟨pv_mem (pv_m6 (i := 214) rfl) rfl, pv_mem (pv_m1 (i := 16) rfl) rfl, ⟨by decide, by decide, by decide +kernel⟩, by decide⟩
theorem im_X10_does : Cond.instanceMethod yX10_does ∈ pv_W := pv_mem (pv_m6 (i := 213) rfl) rfl
theorem se_X10_does : Cond.selects (pv_cn 10) yX10_does yX10_does ∈ pv_W := pv_mem (pv_m0 (i := 63) rfl) rfl
theorem md_X10_draws : pv_MD yX10_draws cX10_draws 5 none 1 := ⟨pv_mem (pv_m6 (i := 201) rfl) rfl, pv_mem (pv_m1 (i := 16) rfl) rfl, ⟨by decide, by decide, by decide +kernel⟩, by decide⟩
theorem im_X10_draws : Cond.instanceMethod yX10_draws ∈ pv_W := pv_mem (pv_m6 (i := 200) rfl) rfl
theorem se_X10_draws : Cond.selects (pv_cn 10) yX10_draws yX10_draws ∈ pv_W := pv_mem (pv_m0 (i := 62) rfl) rfl
theorem md_X10_eats : pv_MD yX10_eats cX10_eats 2 (some .boolean) 1 := ⟨pv_mem (pv_m6 (i := 115) rfl) rfl, pv_mem (pv_m1 (i := 16) rfl) rfl, ⟨by decide, by decide, by decide +kernel⟩, by decide⟩
theorem im_X10_eats : Cond.instanceMethod yX10_eats ∈ pv_W := pv_mem (pv_m6 (i := 114) rfl) rfl
theorem se_X10_eats : Cond.selects (pv_cn 10) yX10_eats yX10_eats ∈ pv_W := pv_mem (pv_m0 (i := 47) rfl) rfl
theorem md_X10_emit : pv_MD yX10_emit cX10_emit 3 none 2 := ⟨pv_mem (pv_m6 (i := 164) rfl) rfl, pv_mem (pv_m1 (i := 16) rfl) rfl, ⟨by decide, by decide, by decide +kernel⟩, by decide⟩
theorem im_X10_emit : Cond.instanceMethod yX10_emit ∈ pv_W := pv_mem (pv_m6 (i := 163) rfl) rfl
theorem se_X10_emit : Cond.selects (pv_cn 10) yX10_emit yX10_emit ∈ pv_W := pv_mem (pv_m0 (i := 58) rfl) rfl
theorem md_X10_ends : pv_MD yX10_ends cX10_ends 7 (some .int) 4 := ⟨pv_mem (pv_m7 (i := 95) rfl) rfl, pv_mem (pv_m1 (i := 16) rfl) rfl, ⟨by decide, by decide, by decide +kernel⟩, by decide⟩
theorem im_X10_ends : Cond.instanceMethod yX10_ends ∈ pv_W := pv_mem (pv_m7 (i := 93) rfl) rfl
theorem se_X10_ends : Cond.selects (pv_cn 10) yX10_ends yX10_ends ∈ pv_W := pv_mem (pv_m7 (i := 94) rfl) rfl
theorem md_X10_fact : pv_MD yX10_fact cX10_fact 3 (some .boolean) 2 := ⟨pv_mem (pv_m7 (i := 182) rfl) rfl, pv_mem (pv_m1 (i := 16) rfl) rfl, ⟨by decide, by decide, by decide +kernel⟩, by decide⟩
theorem im_X10_fact : Cond.instanceMethod yX10_fact ∈ pv_W := pv_mem (pv_m7 (i := 181) rfl) rfl
theorem se_X10_fact : Cond.selects (pv_cn 10) yX10_fact yX10_fact ∈ pv_W := pv_mem (pv_m0 (i := 89) rfl) rfl
theorem md_X10_fails : pv_MD yX10_fails cX10_fails 2 none 1 := ⟨pv_mem (pv_m6 (i := 123) rfl) rfl, pv_mem (pv_m1 (i := 16) rfl) rfl, ⟨by decide, by decide, by decide +kernel⟩, by decide⟩
theorem im_X10_fails : Cond.instanceMethod yX10_fails ∈ pv_W := pv_mem (pv_m6 (i := 122) rfl) rfl
theorem se_X10_fails : Cond.selects (pv_cn 10) yX10_fails yX10_fails ∈ pv_W := pv_mem (pv_m0 (i := 49) rfl) rfl
theorem md_X10_fault : pv_MD yX10_fault cX10_fault 2 (some .int) 1 := ⟨pv_mem (pv_m6 (i := 172) rfl) rfl, pv_mem (pv_m1 (i := 16) rfl) rfl, ⟨by decide, by decide, by decide +kernel⟩, by decide⟩
theorem im_X10_fault : Cond.instanceMethod yX10_fault ∈ pv_W := pv_mem (pv_m6 (i := 170) rfl) rfl
theorem se_X10_fault : Cond.selects (pv_cn 10) yX10_fault yX10_fault ∈ pv_W := pv_mem (pv_m6 (i := 171) rfl) rfl
theorem md_X10_feed : pv_MD yX10_feed cX10_feed 8 (some .int) 5 := ⟨pv_mem (pv_m6 (i := 40) rfl) rfl, pv_mem (pv_m1 (i := 16) rfl) rfl, ⟨by decide, by decide, by decide +kernel⟩, by decide⟩
theorem im_X10_feed : Cond.instanceMethod yX10_feed ∈ pv_W := pv_mem (pv_m6 (i := 38) rfl) rfl
theorem se_X10_feed : Cond.selects (pv_cn 10) yX10_feed yX10_feed ∈ pv_W := pv_mem (pv_m6 (i := 39) rfl) rfl
theorem md_X10_film : pv_MD yX10_film cX10_film 5 (some .int) 1 := ⟨pv_mem (pv_m7 (i := 81) rfl) rfl, pv_mem (pv_m1 (i := 16) rfl) rfl, ⟨by decide, by decide, by decide +kernel⟩, by decide⟩
theorem im_X10_film : Cond.instanceMethod yX10_film ∈ pv_W := pv_mem (pv_m7 (i := 79) rfl) rfl
theorem se_X10_film : Cond.selects (pv_cn 10) yX10_film yX10_film ∈ pv_W := pv_mem (pv_m7 (i := 80) rfl) rfl
theorem md_X10_filmed : pv_MD yX10_filmed cX10_filmed 9 (some .int) 5 := ⟨pv_mem (pv_m7 (i := 198) rfl) rfl, pv_mem (pv_m1 (i := 16) rfl) rfl, ⟨by decide, by decide, by decide +kernel⟩, by decide⟩
theorem im_X10_filmed : Cond.instanceMethod yX10_filmed ∈ pv_W := pv_mem (pv_m7 (i := 196) rfl) rfl
theorem se_X10_filmed : Cond.selects (pv_cn 10) yX10_filmed yX10_filmed ∈ pv_W := pv_mem (pv_m7 (i := 197) rfl) rfl
theorem md_X10_firstTick : pv_MD yX10_firstTick cX10_firstTick 4 (some .int) 0 := ⟨pv_mem (pv_m7 (i := 2) rfl) rfl, pv_mem (pv_m1 (i := 16) rfl) rfl, ⟨by decide, by decide, by decide +kernel⟩, by decide⟩
theorem im_X10_firstTick : Cond.instanceMethod yX10_firstTick ∈ pv_W := pv_mem (pv_m7 (i := 1) rfl) rfl
theorem se_X10_firstTick : Cond.selects (pv_cn 10) yX10_firstTick yX10_firstTick ∈ pv_W := pv_mem (pv_m0 (i := 69) rfl) rfl
theorem md_X10_flies : pv_MD yX10_flies cX10_flies 4 (some .int) 1 := ⟨pv_mem (pv_m7 (i := 214) rfl) rfl, pv_mem (pv_m1 (i := 16) rfl) rfl, ⟨by decide, by decide, by decide +kernel⟩, by decide⟩
theorem im_X10_flies : Cond.instanceMethod yX10_flies ∈ pv_W := pv_mem (pv_m7 (i := 212) rfl) rfl
theorem se_X10_flies : Cond.selects (pv_cn 10) yX10_flies yX10_flies ∈ pv_W := pv_mem (pv_m7 (i := 213) rfl) rfl
theorem md_X10_found : pv_MD yX10_found cX10_found 9 (some .int) 5 := ⟨pv_mem (pv_m7 (i := 174) rfl) rfl, pv_mem (pv_m1 (i := 16) rfl) rfl, ⟨by decide, by decide, by decide +kernel⟩, by decide⟩
theorem im_X10_found : Cond.instanceMethod yX10_found ∈ pv_W := pv_mem (pv_m7 (i := 172) rfl) rfl
theorem se_X10_found : Cond.selects (pv_cn 10) yX10_found yX10_found ∈ pv_W := pv_mem (pv_m7 (i := 173) rfl) rfl
theorem md_X10_go : pv_MD yX10_go cX10_go 6 (some .int) 3 := ⟨pv_mem (pv_m6 (i := 226) rfl) rfl, pv_mem (pv_m1 (i := 16) rfl) rfl, ⟨by decide, by decide, by decide +kernel⟩, by decide⟩
theorem im_X10_go : Cond.instanceMethod yX10_go ∈ pv_W := pv_mem (pv_m6 (i := 224) rfl) rfl
theorem se_X10_go : Cond.selects (pv_cn 10) yX10_go yX10_go ∈ pv_W := pv_mem (pv_m6 (i := 225) rfl) rfl
theorem md_X10_grid : pv_MD yX10_grid cX10_grid 7 (some .int) 3 := ⟨pv_mem (pv_m7 (i := 210) rfl) rfl, pv_mem (pv_m1 (i := 16) rfl) rfl, ⟨by decide, by decide, by decide +kernel⟩, by decide⟩
theorem im_X10_grid : Cond.instanceMethod yX10_grid ∈ pv_W := pv_mem (pv_m7 (i := 208) rfl) rfl
theorem se_X10_grid : Cond.selects (pv_cn 10) yX10_grid yX10_grid ∈ pv_W := pv_mem (pv_m7 (i := 209) rfl) rfl
theorem md_X10_image : pv_MD yX10_image cX10_image 3 (some .int) 1 := ⟨pv_mem (pv_m7 (i := 237) rfl) rfl, pv_mem (pv_m1 (i := 16) rfl) rfl, ⟨by decide, by decide, by decide +kernel⟩, by decide⟩
theorem im_X10_image : Cond.instanceMethod yX10_image ∈ pv_W := pv_mem (pv_m7 (i := 235) rfl) rfl
theorem se_X10_image : Cond.selects (pv_cn 10) yX10_image yX10_image ∈ pv_W := pv_mem (pv_m7 (i := 236) rfl) rfl
theorem md_X10_is : pv_MD yX10_is cX10_is 2 (some .boolean) 1 := ⟨pv_mem (pv_m6 (i := 119) rfl) rfl, pv_mem (pv_m1 (i := 16) rfl) rfl, ⟨by decide, by decide, by decide +kernel⟩, by decide⟩
theorem im_X10_is : Cond.instanceMethod yX10_is ∈ pv_W := pv_mem (pv_m6 (i := 118) rfl) rfl
theorem se_X10_is : Cond.selects (pv_cn 10) yX10_is yX10_is ∈ pv_W := pv_mem (pv_m0 (i := 48) rfl) rfl
theorem md_X10_isBoth : pv_MD yX10_isBoth cX10_isBoth 3 (some .boolean) 2 := ⟨pv_mem (pv_m6 (i := 230) rfl) rfl, pv_mem (pv_m1 (i := 16) rfl) rfl, ⟨by decide, by decide, by decide +kernel⟩, by decide⟩
theorem im_X10_isBoth : Cond.instanceMethod yX10_isBoth ∈ pv_W := pv_mem (pv_m6 (i := 229) rfl) rfl
theorem se_X10_isBoth : Cond.selects (pv_cn 10) yX10_isBoth yX10_isBoth ∈ pv_W := pv_mem (pv_m0 (i := 66) rfl) rfl
theorem md_X10_isCell : pv_MD yX10_isCell cX10_isCell 3 (some .boolean) 2 := ⟨pv_mem (pv_m7 (i := 99) rfl) rfl, pv_mem (pv_m1 (i := 16) rfl) rfl, ⟨by decide, by decide, by decide +kernel⟩, by decide⟩
theorem im_X10_isCell : Cond.instanceMethod yX10_isCell ∈ pv_W := pv_mem (pv_m7 (i := 98) rfl) rfl
theorem se_X10_isCell : Cond.selects (pv_cn 10) yX10_isCell yX10_isCell ∈ pv_W := pv_mem (pv_m0 (i := 82) rfl) rfl
theorem md_X10_isDigit : pv_MD yX10_isDigit cX10_isDigit 1 (some .boolean) 1 := ⟨pv_mem (pv_m6 (i := 99) rfl) rfl, pv_mem (pv_m1 (i := 16) rfl) rfl, ⟨by decide, by decide, by decide +kernel⟩, by decide⟩
theorem st_X10_isDigit : Cond.static yX10_isDigit ∈ pv_W := pv_mem (pv_m6 (i := 98) rfl) rfl
theorem md_X10_isDoing : pv_MD yX10_isDoing cX10_isDoing 1 (some .boolean) 1 := ⟨pv_mem (pv_m6 (i := 209) rfl) rfl, pv_mem (pv_m1 (i := 16) rfl) rfl, ⟨by decide, by decide, by decide +kernel⟩, by decide⟩
theorem st_X10_isDoing : Cond.static yX10_isDoing ∈ pv_W := pv_mem (pv_m6 (i := 208) rfl) rfl
theorem md_X10_isFilmed : pv_MD yX10_isFilmed cX10_isFilmed 4 (some .boolean) 1 := ⟨pv_mem (pv_m7 (i := 202) rfl) rfl, pv_mem (pv_m1 (i := 16) rfl) rfl, ⟨by decide, by decide, by decide +kernel⟩, by decide⟩
theorem im_X10_isFilmed : Cond.instanceMethod yX10_isFilmed ∈ pv_W := pv_mem (pv_m7 (i := 201) rfl) rfl
theorem se_X10_isFilmed : Cond.selects (pv_cn 10) yX10_isFilmed yX10_isFilmed ∈ pv_W := pv_mem (pv_m0 (i := 92) rfl) rfl
theorem md_X10_isGoing : pv_MD yX10_isGoing cX10_isGoing 2 (some .boolean) 0 := ⟨pv_mem (pv_m7 (i := 35) rfl) rfl, pv_mem (pv_m1 (i := 16) rfl) rfl, ⟨by decide, by decide, by decide +kernel⟩, by decide⟩
theorem im_X10_isGoing : Cond.instanceMethod yX10_isGoing ∈ pv_W := pv_mem (pv_m7 (i := 34) rfl) rfl
theorem se_X10_isGoing : Cond.selects (pv_cn 10) yX10_isGoing yX10_isGoing ∈ pv_W := pv_mem (pv_m0 (i := 76) rfl) rfl
theorem md_X10_isKept : pv_MD yX10_isKept cX10_isKept 1 (some .boolean) 0 := ⟨pv_mem (pv_m7 (i := 59) rfl) rfl, pv_mem (pv_m1 (i := 16) rfl) rfl, ⟨by decide, by decide, by decide +kernel⟩, by decide⟩
theorem im_X10_isKept : Cond.instanceMethod yX10_isKept ∈ pv_W := pv_mem (pv_m7 (i := 58) rfl) rfl
theorem se_X10_isKept : Cond.selects (pv_cn 10) yX10_isKept yX10_isKept ∈ pv_W := pv_mem (pv_m0 (i := 81) rfl) rfl
theorem md_X10_isRead : pv_MD yX10_isRead cX10_isRead 4 (some .boolean) 1 := ⟨pv_mem (pv_m7 (i := 166) rfl) rfl, pv_mem (pv_m1 (i := 16) rfl) rfl, ⟨by decide, by decide, by decide +kernel⟩, by decide⟩
theorem im_X10_isRead : Cond.instanceMethod yX10_isRead ∈ pv_W := pv_mem (pv_m7 (i := 165) rfl) rfl
theorem se_X10_isRead : Cond.selects (pv_cn 10) yX10_isRead yX10_isRead ∈ pv_W := pv_mem (pv_m0 (i := 87) rfl) rfl
theorem md_X10_isRod : pv_MD yX10_isRod cX10_isRod 2 (some .boolean) 1 := ⟨pv_mem (pv_m6 (i := 180) rfl) rfl, pv_mem (pv_m1 (i := 16) rfl) rfl, ⟨by decide, by decide, by decide +kernel⟩, by decide⟩
theorem im_X10_isRod : Cond.instanceMethod yX10_isRod ∈ pv_W := pv_mem (pv_m6 (i := 179) rfl) rfl
theorem se_X10_isRod : Cond.selects (pv_cn 10) yX10_isRod yX10_isRod ∈ pv_W := pv_mem (pv_m0 (i := 59) rfl) rfl
theorem md_X10_isSmall : pv_MD yX10_isSmall cX10_isSmall 1 (some .boolean) 1 := ⟨pv_mem (pv_m6 (i := 63) rfl) rfl, pv_mem (pv_m1 (i := 16) rfl) rfl, ⟨by decide, by decide, by decide +kernel⟩, by decide⟩
theorem st_X10_isSmall : Cond.static yX10_isSmall ∈ pv_W := pv_mem (pv_m6 (i := 62) rfl) rfl
theorem md_X10_isSo : pv_MD yX10_isSo cX10_isSo 5 (some .boolean) 1 := ⟨pv_mem (pv_m7 (i := 178) rfl) rfl, pv_mem (pv_m1 (i := 16) rfl) rfl, ⟨by decide, by decide, by decide +kernel⟩, by decide⟩
theorem im_X10_isSo : Cond.instanceMethod yX10_isSo ∈ pv_W := pv_mem (pv_m7 (i := 177) rfl) rfl
theorem se_X10_isSo : Cond.selects (pv_cn 10) yX10_isSo yX10_isSo ∈ pv_W := pv_mem (pv_m0 (i := 88) rfl) rfl
theorem md_X10_keep : pv_MD yX10_keep cX10_keep 5 (some .int) 2 := ⟨pv_mem (pv_m7 (i := 233) rfl) rfl, pv_mem (pv_m1 (i := 16) rfl) rfl, ⟨by decide, by decide, by decide +kernel⟩, by decide⟩
theorem im_X10_keep : Cond.instanceMethod yX10_keep ∈ pv_W := pv_mem (pv_m7 (i := 231) rfl) rfl
theorem se_X10_keep : Cond.selects (pv_cn 10) yX10_keep yX10_keep ∈ pv_W := pv_mem (pv_m7 (i := 232) rfl) rfl
theorem md_X10_keyAt : pv_MD yX10_keyAt cX10_keyAt 4 (some .int) 0 := ⟨pv_mem (pv_m6 (i := 67) rfl) rfl, pv_mem (pv_m1 (i := 16) rfl) rfl, ⟨by decide, by decide, by decide +kernel⟩, by decide⟩
theorem im_X10_keyAt : Cond.instanceMethod yX10_keyAt ∈ pv_W := pv_mem (pv_m6 (i := 66) rfl) rfl
theorem se_X10_keyAt : Cond.selects (pv_cn 10) yX10_keyAt yX10_keyAt ∈ pv_W := pv_mem (pv_m0 (i := 43) rfl) rfl
theorem md_X10_kinds : pv_MD yX10_kinds cX10_kinds 4 (some .int) 1 := ⟨pv_mem (pv_m7 (i := 186) rfl) rfl, pv_mem (pv_m1 (i := 16) rfl) rfl, ⟨by decide, by decide, by decide +kernel⟩, by decide⟩
theorem im_X10_kinds : Cond.instanceMethod yX10_kinds ∈ pv_W := pv_mem (pv_m7 (i := 185) rfl) rfl
theorem se_X10_kinds : Cond.selects (pv_cn 10) yX10_kinds yX10_kinds ∈ pv_W := pv_mem (pv_m0 (i := 90) rfl) rfl
theorem md_X10_laysTicks : pv_MD yX10_laysTicks cX10_laysTicks 3 none 0 := ⟨pv_mem (pv_m6 (i := 218) rfl) rfl, pv_mem (pv_m1 (i := 16) rfl) rfl, ⟨by decide, by decide, by decide +kernel⟩, by decide⟩
theorem im_X10_laysTicks : Cond.instanceMethod yX10_laysTicks ∈ pv_W := pv_mem (pv_m6 (i := 217) rfl) rfl
theorem se_X10_laysTicks : Cond.selects (pv_cn 10) yX10_laysTicks yX10_laysTicks ∈ pv_W := pv_mem (pv_m0 (i := 64) rfl) rfl
theorem md_X10_least : pv_MD yX10_least cX10_least 4 (some .int) 3 := ⟨pv_mem (pv_m7 (i := 112) rfl) rfl, pv_mem (pv_m1 (i := 16) rfl) rfl, ⟨by decide, by decide, by decide +kernel⟩, by decide⟩
theorem im_X10_least : Cond.instanceMethod yX10_least ∈ pv_W := pv_mem (pv_m7 (i := 110) rfl) rfl
theorem se_X10_least : Cond.selects (pv_cn 10) yX10_least yX10_least ∈ pv_W := pv_mem (pv_m7 (i := 111) rfl) rfl
theorem md_X10_leastTurn : pv_MD yX10_leastTurn cX10_leastTurn 6 (some .int) 4 := ⟨pv_mem (pv_m7 (i := 116) rfl) rfl, pv_mem (pv_m1 (i := 16) rfl) rfl, ⟨by decide, by decide, by decide +kernel⟩, by decide⟩
theorem im_X10_leastTurn : Cond.instanceMethod yX10_leastTurn ∈ pv_W := pv_mem (pv_m7 (i := 115) rfl) rfl
theorem se_X10_leastTurn : Cond.selects (pv_cn 10) yX10_leastTurn yX10_leastTurn ∈ pv_W := pv_mem (pv_m0 (i := 83) rfl) rfl
theorem md_X10_line : pv_MD yX10_line cX10_line 5 (some .int) 4 := ⟨pv_mem (pv_m7 (i := 120) rfl) rfl, pv_mem (pv_m1 (i := 16) rfl) rfl, ⟨by decide, by decide, by decide +kernel⟩, by decide⟩
theorem im_X10_line : Cond.instanceMethod yX10_line ∈ pv_W := pv_mem (pv_m7 (i := 118) rfl) rfl
theorem se_X10_line : Cond.selects (pv_cn 10) yX10_line yX10_line ∈ pv_W := pv_mem (pv_m7 (i := 119) rfl) rfl
theorem md_X10_loadBy : pv_MD yX10_loadBy cX10_loadBy 3 (some .int) 2 := ⟨pv_mem (pv_m7 (i := 10) rfl) rfl, pv_mem (pv_m1 (i := 16) rfl) rfl, ⟨by decide, by decide, by decide +kernel⟩, by decide⟩
theorem im_X10_loadBy : Cond.instanceMethod yX10_loadBy ∈ pv_W := pv_mem (pv_m7 (i := 9) rfl) rfl
theorem se_X10_loadBy : Cond.selects (pv_cn 10) yX10_loadBy yX10_loadBy ∈ pv_W := pv_mem (pv_m0 (i := 71) rfl) rfl
theorem md_X10_loadOf : pv_MD yX10_loadOf cX10_loadOf 2 (some .int) 1 := ⟨pv_mem (pv_m7 (i := 18) rfl) rfl, pv_mem (pv_m1 (i := 16) rfl) rfl, ⟨by decide, by decide, by decide +kernel⟩, by decide⟩
theorem im_X10_loadOf : Cond.instanceMethod yX10_loadOf ∈ pv_W := pv_mem (pv_m7 (i := 17) rfl) rfl
theorem se_X10_loadOf : Cond.selects (pv_cn 10) yX10_loadOf yX10_loadOf ∈ pv_W := pv_mem (pv_m0 (i := 73) rfl) rfl
theorem md_X10_longer : pv_MD yX10_longer cX10_longer 6 (some .int) 4 := ⟨pv_mem (pv_m7 (i := 137) rfl) rfl, pv_mem (pv_m1 (i := 16) rfl) rfl, ⟨by decide, by decide, by decide +kernel⟩, by decide⟩
theorem im_X10_longer : Cond.instanceMethod yX10_longer ∈ pv_W := pv_mem (pv_m7 (i := 135) rfl) rfl
theorem se_X10_longer : Cond.selects (pv_cn 10) yX10_longer yX10_longer ∈ pv_W := pv_mem (pv_m7 (i := 136) rfl) rfl
theorem md_X10_longest : pv_MD yX10_longest cX10_longest 4 (some .int) 1 := ⟨pv_mem (pv_m7 (i := 190) rfl) rfl, pv_mem (pv_m1 (i := 16) rfl) rfl, ⟨by decide, by decide, by decide +kernel⟩, by decide⟩
theorem im_X10_longest : Cond.instanceMethod yX10_longest ∈ pv_W := pv_mem (pv_m7 (i := 189) rfl) rfl
theorem se_X10_longest : Cond.selects (pv_cn 10) yX10_longest yX10_longest ∈ pv_W := pv_mem (pv_m0 (i := 91) rfl) rfl
theorem md_X10_looks : pv_MD yX10_looks cX10_looks 4 none 3 := ⟨pv_mem (pv_m7 (i := 47) rfl) rfl, pv_mem (pv_m1 (i := 16) rfl) rfl, ⟨by decide, by decide, by decide +kernel⟩, by decide⟩
theorem im_X10_looks : Cond.instanceMethod yX10_looks ∈ pv_W := pv_mem (pv_m7 (i := 46) rfl) rfl
theorem se_X10_looks : Cond.selects (pv_cn 10) yX10_looks yX10_looks ∈ pv_W := pv_mem (pv_m0 (i := 79) rfl) rfl
theorem md_X10_middle : pv_MD yX10_middle cX10_middle 11 (some .int) 4 := ⟨pv_mem (pv_m7 (i := 194) rfl) rfl, pv_mem (pv_m1 (i := 16) rfl) rfl, ⟨by decide, by decide, by decide +kernel⟩, by decide⟩
theorem im_X10_middle : Cond.instanceMethod yX10_middle ∈ pv_W := pv_mem (pv_m7 (i := 192) rfl) rfl
theorem se_X10_middle : Cond.selects (pv_cn 10) yX10_middle yX10_middle ∈ pv_W := pv_mem (pv_m7 (i := 193) rfl) rfl
theorem md_X10_needs : pv_MD yX10_needs cX10_needs 2 none 1 := ⟨pv_mem (pv_m6 (i := 111) rfl) rfl, pv_mem (pv_m1 (i := 16) rfl) rfl, ⟨by decide, by decide, by decide +kernel⟩, by decide⟩
theorem im_X10_needs : Cond.instanceMethod yX10_needs ∈ pv_W := pv_mem (pv_m6 (i := 110) rfl) rfl
theorem se_X10_needs : Cond.selects (pv_cn 10) yX10_needs yX10_needs ∈ pv_W := pv_mem (pv_m0 (i := 46) rfl) rfl
theorem md_X10_never : pv_MD yX10_never cX10_never 7 (some .int) 2 := ⟨pv_mem (pv_m7 (i := 154) rfl) rfl, pv_mem (pv_m1 (i := 16) rfl) rfl, ⟨by decide, by decide, by decide +kernel⟩, by decide⟩
theorem im_X10_never : Cond.instanceMethod yX10_never ∈ pv_W := pv_mem (pv_m7 (i := 152) rfl) rfl
theorem se_X10_never : Cond.selects (pv_cn 10) yX10_never yX10_never ∈ pv_W := pv_mem (pv_m7 (i := 153) rfl) rfl
theorem md_X10_next : pv_MD yX10_next cX10_next 1 none 0 := ⟨pv_mem (pv_m6 (i := 56) rfl) rfl, pv_mem (pv_m1 (i := 16) rfl) rfl, ⟨by decide, by decide, by decide +kernel⟩, by decide⟩
theorem im_X10_next : Cond.instanceMethod yX10_next ∈ pv_W := pv_mem (pv_m6 (i := 55) rfl) rfl
theorem se_X10_next : Cond.selects (pv_cn 10) yX10_next yX10_next ∈ pv_W := pv_mem (pv_m0 (i := 41) rfl) rfl
theorem md_X10_no : pv_MD yX10_no cX10_no 2 (some .int) 1 := ⟨pv_mem (pv_m6 (i := 44) rfl) rfl, pv_mem (pv_m1 (i := 16) rfl) rfl, ⟨by decide, by decide, by decide +kernel⟩, by decide⟩
theorem im_X10_no : Cond.instanceMethod yX10_no ∈ pv_W := pv_mem (pv_m6 (i := 43) rfl) rfl
theorem se_X10_no : Cond.selects (pv_cn 10) yX10_no yX10_no ∈ pv_W := pv_mem (pv_m0 (i := 40) rfl) rfl
theorem md_X10_notch : pv_MD yX10_notch cX10_notch 8 (some .int) 4 := ⟨pv_mem (pv_m7 (i := 133) rfl) rfl, pv_mem (pv_m1 (i := 16) rfl) rfl, ⟨by decide, by decide, by decide +kernel⟩, by decide⟩
theorem im_X10_notch : Cond.instanceMethod yX10_notch ∈ pv_W := pv_mem (pv_m7 (i := 131) rfl) rfl
theorem se_X10_notch : Cond.selects (pv_cn 10) yX10_notch yX10_notch ∈ pv_W := pv_mem (pv_m7 (i := 132) rfl) rfl
theorem md_X10_notched : pv_MD yX10_notched cX10_notched 6 (some .int) 5 := ⟨pv_mem (pv_m7 (i := 124) rfl) rfl, pv_mem (pv_m1 (i := 16) rfl) rfl, ⟨by decide, by decide, by decide +kernel⟩, by decide⟩
theorem im_X10_notched : Cond.instanceMethod yX10_notched ∈ pv_W := pv_mem (pv_m7 (i := 122) rfl) rfl
theorem se_X10_notched : Cond.selects (pv_cn 10) yX10_notched yX10_notched ∈ pv_W := pv_mem (pv_m7 (i := 123) rfl) rfl
theorem md_X10_notchedTo : pv_MD yX10_notchedTo cX10_notchedTo 6 (some .int) 5 := ⟨pv_mem (pv_m7 (i := 129) rfl) rfl, pv_mem (pv_m1 (i := 16) rfl) rfl, ⟨by decide, by decide, by decide +kernel⟩, by decide⟩
theorem im_X10_notchedTo : Cond.instanceMethod yX10_notchedTo ∈ pv_W := pv_mem (pv_m7 (i := 128) rfl) rfl
theorem se_X10_notchedTo : Cond.selects (pv_cn 10) yX10_notchedTo yX10_notchedTo ∈ pv_W := pv_mem (pv_m0 (i := 84) rfl) rfl
theorem md_X10_odds : pv_MD yX10_odds cX10_odds 8 (some .int) 4 := ⟨pv_mem (pv_m7 (i := 91) rfl) rfl, pv_mem (pv_m1 (i := 16) rfl) rfl, ⟨by decide, by decide, by decide +kernel⟩, by decide⟩
theorem im_X10_odds : Cond.instanceMethod yX10_odds ∈ pv_W := pv_mem (pv_m7 (i := 89) rfl) rfl
theorem se_X10_odds : Cond.selects (pv_cn 10) yX10_odds yX10_odds ∈ pv_W := pv_mem (pv_m7 (i := 90) rfl) rfl
theorem md_X10_paced : pv_MD yX10_paced cX10_paced 5 (some .int) 4 := ⟨pv_mem (pv_m7 (i := 103) rfl) rfl, pv_mem (pv_m1 (i := 16) rfl) rfl, ⟨by decide, by decide, by decide +kernel⟩, by decide⟩
theorem im_X10_paced : Cond.instanceMethod yX10_paced ∈ pv_W := pv_mem (pv_m7 (i := 101) rfl) rfl
theorem se_X10_paced : Cond.selects (pv_cn 10) yX10_paced yX10_paced ∈ pv_W := pv_mem (pv_m7 (i := 102) rfl) rfl
theorem md_X10_part : pv_MD yX10_part cX10_part 2 (some .int) 2 := ⟨pv_mem (pv_m7 (i := 25) rfl) rfl, pv_mem (pv_m1 (i := 16) rfl) rfl, ⟨by decide, by decide, by decide +kernel⟩, by decide⟩
theorem st_X10_part : Cond.static yX10_part ∈ pv_W := pv_mem (pv_m7 (i := 24) rfl) rfl
theorem md_X10_piece : pv_MD yX10_piece cX10_piece 2 (some .int) 1 := ⟨pv_mem (pv_m7 (i := 63) rfl) rfl, pv_mem (pv_m1 (i := 16) rfl) rfl, ⟨by decide, by decide, by decide +kernel⟩, by decide⟩
theorem im_X10_piece : Cond.instanceMethod yX10_piece ∈ pv_W := pv_mem (pv_m7 (i := 61) rfl) rfl
theorem se_X10_piece : Cond.selects (pv_cn 10) yX10_piece yX10_piece ∈ pv_W := pv_mem (pv_m7 (i := 62) rfl) rfl
theorem md_X10_piecesOf : pv_MD yX10_piecesOf cX10_piecesOf 6 (some .int) 5 := ⟨pv_mem (pv_m6 (i := 234) rfl) rfl, pv_mem (pv_m1 (i := 16) rfl) rfl, ⟨by decide, by decide, by decide +kernel⟩, by decide⟩
theorem im_X10_piecesOf : Cond.instanceMethod yX10_piecesOf ∈ pv_W := pv_mem (pv_m6 (i := 233) rfl) rfl
theorem se_X10_piecesOf : Cond.selects (pv_cn 10) yX10_piecesOf yX10_piecesOf ∈ pv_W := pv_mem (pv_m0 (i := 67) rfl) rfl
theorem md_X10_plainLaw : pv_MD yX10_plainLaw cX10_plainLaw 4 none 1 := ⟨pv_mem (pv_m5 (i := 76) rfl) rfl, pv_mem (pv_m1 (i := 16) rfl) rfl, ⟨by decide, by decide, by decide +kernel⟩, by decide⟩
theorem im_X10_plainLaw : Cond.instanceMethod yX10_plainLaw ∈ pv_W := pv_mem (pv_m5 (i := 75) rfl) rfl
theorem se_X10_plainLaw : Cond.selects (pv_cn 10) yX10_plainLaw yX10_plainLaw ∈ pv_W := pv_mem (pv_m0 (i := 39) rfl) rfl
theorem md_X10_read : pv_MD yX10_read cX10_read 10 (some .int) 4 := ⟨pv_mem (pv_m7 (i := 158) rfl) rfl, pv_mem (pv_m1 (i := 16) rfl) rfl, ⟨by decide, by decide, by decide +kernel⟩, by decide⟩
theorem im_X10_read : Cond.instanceMethod yX10_read ∈ pv_W := pv_mem (pv_m7 (i := 156) rfl) rfl
theorem se_X10_read : Cond.selects (pv_cn 10) yX10_read yX10_read ∈ pv_W := pv_mem (pv_m7 (i := 157) rfl) rfl
theorem md_X10_readFact : pv_MD yX10_readFact cX10_readFact 3 none 0 := ⟨pv_mem (pv_m6 (i := 160) rfl) rfl, pv_mem (pv_m1 (i := 16) rfl) rfl, ⟨by decide, by decide, by decide +kernel⟩, by decide⟩
theorem im_X10_readFact : Cond.instanceMethod yX10_readFact ∈ pv_W := pv_mem (pv_m6 (i := 159) rfl) rfl
theorem se_X10_readFact : Cond.selects (pv_cn 10) yX10_readFact yX10_readFact ∈ pv_W := pv_mem (pv_m0 (i := 57) rfl) rfl
theorem md_X10_readFirst : pv_MD yX10_readFirst cX10_readFirst 2 none 0 := ⟨pv_mem (pv_m6 (i := 107) rfl) rfl, pv_mem (pv_m1 (i := 16) rfl) rfl, ⟨by decide, by decide, by decide +kernel⟩, by decide⟩
theorem im_X10_readFirst : Cond.instanceMethod yX10_readFirst ∈ pv_W := pv_mem (pv_m6 (i := 106) rfl) rfl
theorem se_X10_readFirst : Cond.selects (pv_cn 10) yX10_readFirst yX10_readFirst ∈ pv_W := pv_mem (pv_m0 (i := 45) rfl) rfl
theorem md_X10_readLaw : pv_MD yX10_readLaw cX10_readLaw 4 none 0 := ⟨pv_mem (pv_m6 (i := 142) rfl) rfl, pv_mem (pv_m1 (i := 16) rfl) rfl, ⟨by decide, by decide, by decide +kernel⟩, by decide⟩
theorem im_X10_readLaw : Cond.instanceMethod yX10_readLaw ∈ pv_W := pv_mem (pv_m6 (i := 141) rfl) rfl
theorem se_X10_readLaw : Cond.selects (pv_cn 10) yX10_readLaw yX10_readLaw ∈ pv_W := pv_mem (pv_m0 (i := 53) rfl) rfl
theorem md_X10_readLook : pv_MD yX10_readLook cX10_readLook 1 none 0 := ⟨pv_mem (pv_m6 (i := 148) rfl) rfl, pv_mem (pv_m1 (i := 16) rfl) rfl, ⟨by decide, by decide, by decide +kernel⟩, by decide⟩
theorem im_X10_readLook : Cond.instanceMethod yX10_readLook ∈ pv_W := pv_mem (pv_m6 (i := 147) rfl) rfl
theorem se_X10_readLook : Cond.selects (pv_cn 10) yX10_readLook yX10_readLook ∈ pv_W := pv_mem (pv_m0 (i := 54) rfl) rfl
theorem md_X10_readPart : pv_MD yX10_readPart cX10_readPart 1 none 0 := ⟨pv_mem (pv_m6 (i := 156) rfl) rfl, pv_mem (pv_m1 (i := 16) rfl) rfl, ⟨by decide, by decide, by decide +kernel⟩, by decide⟩
theorem im_X10_readPart : Cond.instanceMethod yX10_readPart ∈ pv_W := pv_mem (pv_m6 (i := 155) rfl) rfl
theorem se_X10_readPart : Cond.selects (pv_cn 10) yX10_readPart yX10_readPart ∈ pv_W := pv_mem (pv_m0 (i := 56) rfl) rfl
theorem md_X10_readRodLine : pv_MD yX10_readRodLine cX10_readRodLine 3 none 0 := ⟨pv_mem (pv_m6 (i := 103) rfl) rfl, pv_mem (pv_m1 (i := 16) rfl) rfl, ⟨by decide, by decide, by decide +kernel⟩, by decide⟩
theorem im_X10_readRodLine : Cond.instanceMethod yX10_readRodLine ∈ pv_W := pv_mem (pv_m6 (i := 102) rfl) rfl
theorem se_X10_readRodLine : Cond.selects (pv_cn 10) yX10_readRodLine yX10_readRodLine ∈ pv_W := pv_mem (pv_m0 (i := 44) rfl) rfl
theorem md_X10_readSpans : pv_MD yX10_readSpans cX10_readSpans 6 none 2 := ⟨pv_mem (pv_m6 (i := 132) rfl) rfl, pv_mem (pv_m1 (i := 16) rfl) rfl, ⟨by decide, by decide, by decide +kernel⟩, by decide⟩
theorem im_X10_readSpans : Cond.instanceMethod yX10_readSpans ∈ pv_W := pv_mem (pv_m6 (i := 131) rfl) rfl
theorem se_X10_readSpans : Cond.selects (pv_cn 10) yX10_readSpans yX10_readSpans ∈ pv_W := pv_mem (pv_m0 (i := 51) rfl) rfl
theorem md_X10_readStep : pv_MD yX10_readStep cX10_readStep 2 none 0 := ⟨pv_mem (pv_m6 (i := 136) rfl) rfl, pv_mem (pv_m1 (i := 16) rfl) rfl, ⟨by decide, by decide, by decide +kernel⟩, by decide⟩
theorem im_X10_readStep : Cond.instanceMethod yX10_readStep ∈ pv_W := pv_mem (pv_m6 (i := 135) rfl) rfl
theorem se_X10_readStep : Cond.selects (pv_cn 10) yX10_readStep yX10_readStep ∈ pv_W := pv_mem (pv_m0 (i := 52) rfl) rfl
theorem md_X10_readTest : pv_MD yX10_readTest cX10_readTest 1 none 0 := ⟨pv_mem (pv_m6 (i := 152) rfl) rfl, pv_mem (pv_m1 (i := 16) rfl) rfl, ⟨by decide, by decide, by decide +kernel⟩, by decide⟩
theorem im_X10_readTest : Cond.instanceMethod yX10_readTest ∈ pv_W := pv_mem (pv_m6 (i := 151) rfl) rfl
theorem se_X10_readTest : Cond.selects (pv_cn 10) yX10_readTest yX10_readTest ∈ pv_W := pv_mem (pv_m0 (i := 55) rfl) rfl
theorem md_X10_reads : pv_MD yX10_reads cX10_reads 4 (some .int) 2 := ⟨pv_mem (pv_m6 (i := 127) rfl) rfl, pv_mem (pv_m1 (i := 16) rfl) rfl, ⟨by decide, by decide, by decide +kernel⟩, by decide⟩
theorem im_X10_reads : Cond.instanceMethod yX10_reads ∈ pv_W := pv_mem (pv_m6 (i := 126) rfl) rfl
theorem se_X10_reads : Cond.selects (pv_cn 10) yX10_reads yX10_reads ∈ pv_W := pv_mem (pv_m0 (i := 50) rfl) rfl
theorem md_X10_readsOf : pv_MD yX10_readsOf cX10_readsOf 8 (some .int) 5 := ⟨pv_mem (pv_m7 (i := 162) rfl) rfl, pv_mem (pv_m1 (i := 16) rfl) rfl, ⟨by decide, by decide, by decide +kernel⟩, by decide⟩
theorem im_X10_readsOf : Cond.instanceMethod yX10_readsOf ∈ pv_W := pv_mem (pv_m7 (i := 161) rfl) rfl
theorem se_X10_readsOf : Cond.selects (pv_cn 10) yX10_readsOf yX10_readsOf ∈ pv_W := pv_mem (pv_m0 (i := 86) rfl) rfl
theorem md_X10_restore : pv_MD yX10_restore cX10_restore 3 (some .int) 1 := ⟨pv_mem (pv_m8 (i := 1) rfl) rfl, pv_mem (pv_m1 (i := 16) rfl) rfl, ⟨by decide, by decide, by decide +kernel⟩, by decide⟩
theorem im_X10_restore : Cond.instanceMethod yX10_restore ∈ pv_W := pv_mem (pv_m7 (i := 239) rfl) rfl
theorem se_X10_restore : Cond.selects (pv_cn 10) yX10_restore yX10_restore ∈ pv_W := pv_mem (pv_m8 (i := 0) rfl) rfl
theorem md_X10_rod : pv_MD yX10_rod cX10_rod 3 (some .int) 2 := ⟨pv_mem (pv_m6 (i := 176) rfl) rfl, pv_mem (pv_m1 (i := 16) rfl) rfl, ⟨by decide, by decide, by decide +kernel⟩, by decide⟩
theorem im_X10_rod : Cond.instanceMethod yX10_rod ∈ pv_W := pv_mem (pv_m6 (i := 174) rfl) rfl
theorem se_X10_rod : Cond.selects (pv_cn 10) yX10_rod yX10_rod ∈ pv_W := pv_mem (pv_m6 (i := 175) rfl) rfl
theorem md_X10_rodsOf : pv_MD yX10_rodsOf cX10_rodsOf 3 (some .int) 0 := ⟨pv_mem (pv_m8 (i := 21) rfl) rfl, pv_mem (pv_m1 (i := 16) rfl) rfl, ⟨by decide, by decide, by decide +kernel⟩, by decide⟩
theorem im_X10_rodsOf : Cond.instanceMethod yX10_rodsOf ∈ pv_W := pv_mem (pv_m8 (i := 20) rfl) rfl
theorem se_X10_rodsOf : Cond.selects (pv_cn 10) yX10_rodsOf yX10_rodsOf ∈ pv_W := pv_mem (pv_m0 (i := 95) rfl) rfl
theorem md_X10_row : pv_MD yX10_row cX10_row 5 (some .int) 3 := ⟨pv_mem (pv_m7 (i := 222) rfl) rfl, pv_mem (pv_m1 (i := 16) rfl) rfl, ⟨by decide, by decide, by decide +kernel⟩, by decide⟩
theorem im_X10_row : Cond.instanceMethod yX10_row ∈ pv_W := pv_mem (pv_m7 (i := 220) rfl) rfl
theorem se_X10_row : Cond.selects (pv_cn 10) yX10_row yX10_row ∈ pv_W := pv_mem (pv_m7 (i := 221) rfl) rfl
theorem md_X10_run : pv_MD yX10_run cX10_run 2 (some .int) 1 := ⟨pv_mem (pv_m7 (i := 72) rfl) rfl, pv_mem (pv_m1 (i := 16) rfl) rfl, ⟨by decide, by decide, by decide +kernel⟩, by decide⟩
theorem im_X10_run : Cond.instanceMethod yX10_run ∈ pv_W := pv_mem (pv_m7 (i := 70) rfl) rfl
theorem se_X10_run : Cond.selects (pv_cn 10) yX10_run yX10_run ∈ pv_W := pv_mem (pv_m7 (i := 71) rfl) rfl
theorem md_X10_runs : pv_MD yX10_runs cX10_runs 4 none 1 := ⟨pv_mem (pv_m6 (i := 238) rfl) rfl, pv_mem (pv_m1 (i := 16) rfl) rfl, ⟨by decide, by decide, by decide +kernel⟩, by decide⟩
theorem im_X10_runs : Cond.instanceMethod yX10_runs ∈ pv_W := pv_mem (pv_m6 (i := 237) rfl) rfl
theorem se_X10_runs : Cond.selects (pv_cn 10) yX10_runs yX10_runs ∈ pv_W := pv_mem (pv_m0 (i := 68) rfl) rfl
theorem md_X10_see : pv_MD yX10_see cX10_see 2 (some .int) 1 := ⟨pv_mem (pv_m6 (i := 60) rfl) rfl, pv_mem (pv_m1 (i := 16) rfl) rfl, ⟨by decide, by decide, by decide +kernel⟩, by decide⟩
theorem im_X10_see : Cond.instanceMethod yX10_see ∈ pv_W := pv_mem (pv_m6 (i := 59) rfl) rfl
theorem se_X10_see : Cond.selects (pv_cn 10) yX10_see yX10_see ∈ pv_W := pv_mem (pv_m0 (i := 42) rfl) rfl
theorem md_X10_shapes : pv_MD yX10_shapes cX10_shapes 2 none 0 := ⟨pv_mem (pv_m6 (i := 193) rfl) rfl, pv_mem (pv_m1 (i := 16) rfl) rfl, ⟨by decide, by decide, by decide +kernel⟩, by decide⟩
theorem im_X10_shapes : Cond.instanceMethod yX10_shapes ∈ pv_W := pv_mem (pv_m6 (i := 192) rfl) rfl
theorem se_X10_shapes : Cond.selects (pv_cn 10) yX10_shapes yX10_shapes ∈ pv_W := pv_mem (pv_m0 (i := 61) rfl) rfl
theorem md_X10_status : pv_MD yX10_status cX10_status 2 (some .int) 1 := ⟨pv_mem (pv_m8 (i := 5) rfl) rfl, pv_mem (pv_m1 (i := 16) rfl) rfl, ⟨by decide, by decide, by decide +kernel⟩, by decide⟩
theorem im_X10_status : Cond.instanceMethod yX10_status ∈ pv_W := pv_mem (pv_m8 (i := 3) rfl) rfl
theorem se_X10_status : Cond.selects (pv_cn 10) yX10_status yX10_status ∈ pv_W := pv_mem (pv_m8 (i := 4) rfl) rfl
theorem md_X10_stops : pv_MD yX10_stops cX10_stops 5 none 3 := ⟨pv_mem (pv_m7 (i := 43) rfl) rfl, pv_mem (pv_m1 (i := 16) rfl) rfl, ⟨by decide, by decide, by decide +kernel⟩, by decide⟩
theorem im_X10_stops : Cond.instanceMethod yX10_stops ∈ pv_W := pv_mem (pv_m7 (i := 42) rfl) rfl
theorem se_X10_stops : Cond.selects (pv_cn 10) yX10_stops yX10_stops ∈ pv_W := pv_mem (pv_m0 (i := 78) rfl) rfl
theorem md_X10_strength : pv_MD yX10_strength cX10_strength 4 (some .int) 3 := ⟨pv_mem (pv_m6 (i := 197) rfl) rfl, pv_mem (pv_m1 (i := 16) rfl) rfl, ⟨by decide, by decide, by decide +kernel⟩, by decide⟩
theorem im_X10_strength : Cond.instanceMethod yX10_strength ∈ pv_W := pv_mem (pv_m6 (i := 195) rfl) rfl
theorem se_X10_strength : Cond.selects (pv_cn 10) yX10_strength yX10_strength ∈ pv_W := pv_mem (pv_m6 (i := 196) rfl) rfl
theorem md_X10_swapped : pv_MD yX10_swapped cX10_swapped 7 (some .int) 3 := ⟨pv_mem (pv_m7 (i := 206) rfl) rfl, pv_mem (pv_m1 (i := 16) rfl) rfl, ⟨by decide, by decide, by decide +kernel⟩, by decide⟩
theorem im_X10_swapped : Cond.instanceMethod yX10_swapped ∈ pv_W := pv_mem (pv_m7 (i := 204) rfl) rfl
theorem se_X10_swapped : Cond.selects (pv_cn 10) yX10_swapped yX10_swapped ∈ pv_W := pv_mem (pv_m7 (i := 205) rfl) rfl
theorem md_X10_takes : pv_MD yX10_takes cX10_takes 4 none 1 := ⟨pv_mem (pv_m6 (i := 189) rfl) rfl, pv_mem (pv_m1 (i := 16) rfl) rfl, ⟨by decide, by decide, by decide +kernel⟩, by decide⟩
theorem im_X10_takes : Cond.instanceMethod yX10_takes ∈ pv_W := pv_mem (pv_m6 (i := 188) rfl) rfl
theorem se_X10_takes : Cond.selects (pv_cn 10) yX10_takes yX10_takes ∈ pv_W := pv_mem (pv_m0 (i := 60) rfl) rfl
theorem md_X10_text : pv_MD yX10_text cX10_text 7 (some .int) 3 := ⟨pv_mem (pv_m6 (i := 48) rfl) rfl, pv_mem (pv_m1 (i := 16) rfl) rfl, ⟨by decide, by decide, by decide +kernel⟩, by decide⟩
theorem im_X10_text : Cond.instanceMethod yX10_text ∈ pv_W := pv_mem (pv_m6 (i := 46) rfl) rfl
theorem se_X10_text : Cond.selects (pv_cn 10) yX10_text yX10_text ∈ pv_W := pv_mem (pv_m6 (i := 47) rfl) rfl
theorem md_X10_thinner : pv_MD yX10_thinner cX10_thinner 6 (some .int) 4 := ⟨pv_mem (pv_m7 (i := 142) rfl) rfl, pv_mem (pv_m1 (i := 16) rfl) rfl, ⟨by decide, by decide, by decide +kernel⟩, by decide⟩
theorem im_X10_thinner : Cond.instanceMethod yX10_thinner ∈ pv_W := pv_mem (pv_m7 (i := 140) rfl) rfl
theorem se_X10_thinner : Cond.selects (pv_cn 10) yX10_thinner yX10_thinner ∈ pv_W := pv_mem (pv_m7 (i := 141) rfl) rfl
theorem md_X10_ticksOf : pv_MD yX10_ticksOf cX10_ticksOf 2 (some .int) 1 := ⟨pv_mem (pv_m8 (i := 17) rfl) rfl, pv_mem (pv_m1 (i := 16) rfl) rfl, ⟨by decide, by decide, by decide +kernel⟩, by decide⟩
theorem im_X10_ticksOf : Cond.instanceMethod yX10_ticksOf ∈ pv_W := pv_mem (pv_m8 (i := 16) rfl) rfl
theorem se_X10_ticksOf : Cond.selects (pv_cn 10) yX10_ticksOf yX10_ticksOf ∈ pv_W := pv_mem (pv_m0 (i := 94) rfl) rfl
theorem md_X10_turned : pv_MD yX10_turned cX10_turned 5 (some .int) 4 := ⟨pv_mem (pv_m7 (i := 107) rfl) rfl, pv_mem (pv_m1 (i := 16) rfl) rfl, ⟨by decide, by decide, by decide +kernel⟩, by decide⟩
theorem im_X10_turned : Cond.instanceMethod yX10_turned ∈ pv_W := pv_mem (pv_m7 (i := 105) rfl) rfl
theorem se_X10_turned : Cond.selects (pv_cn 10) yX10_turned yX10_turned ∈ pv_W := pv_mem (pv_m7 (i := 106) rfl) rfl
theorem md_X10_was : pv_MD yX10_was cX10_was 7 (some .int) 4 := ⟨pv_mem (pv_m7 (i := 170) rfl) rfl, pv_mem (pv_m1 (i := 16) rfl) rfl, ⟨by decide, by decide, by decide +kernel⟩, by decide⟩
theorem im_X10_was : Cond.instanceMethod yX10_was ∈ pv_W := pv_mem (pv_m7 (i := 168) rfl) rfl
theorem se_X10_was : Cond.selects (pv_cn 10) yX10_was yX10_was ∈ pv_W := pv_mem (pv_m7 (i := 169) rfl) rfl
theorem md_X10_wave : pv_MD yX10_wave cX10_wave 3 (some .int) 2 := ⟨pv_mem (pv_m7 (i := 67) rfl) rfl, pv_mem (pv_m1 (i := 16) rfl) rfl, ⟨by decide, by decide, by decide +kernel⟩, by decide⟩
theorem im_X10_wave : Cond.instanceMethod yX10_wave ∈ pv_W := pv_mem (pv_m7 (i := 65) rfl) rfl
theorem se_X10_wave : Cond.selects (pv_cn 10) yX10_wave yX10_wave ∈ pv_W := pv_mem (pv_m7 (i := 66) rfl) rfl
theorem md_X10_weakest : pv_MD yX10_weakest cX10_weakest 5 (some .int) 0 := ⟨pv_mem (pv_m7 (i := 14) rfl) rfl, pv_mem (pv_m1 (i := 16) rfl) rfl, ⟨by decide, by decide, by decide +kernel⟩, by decide⟩
theorem im_X10_weakest : Cond.instanceMethod yX10_weakest ∈ pv_W := pv_mem (pv_m7 (i := 13) rfl) rfl
theorem se_X10_weakest : Cond.selects (pv_cn 10) yX10_weakest yX10_weakest ∈ pv_W := pv_mem (pv_m0 (i := 72) rfl) rfl
theorem md_X10_why : pv_MD yX10_why cX10_why 1 (some .int) 0 := ⟨pv_mem (pv_m7 (i := 77) rfl) rfl, pv_mem (pv_m1 (i := 16) rfl) rfl, ⟨by decide, by decide, by decide +kernel⟩, by decide⟩
theorem im_X10_why : Cond.instanceMethod yX10_why ∈ pv_W := pv_mem (pv_m7 (i := 75) rfl) rfl
theorem se_X10_why : Cond.selects (pv_cn 10) yX10_why yX10_why ∈ pv_W := pv_mem (pv_m7 (i := 76) rfl) rfl
theorem md_X10_within : pv_MD yX10_within cX10_within 6 (some .boolean) 3 := ⟨pv_mem (pv_m6 (i := 52) rfl) rfl, pv_mem (pv_m1 (i := 16) rfl) rfl, ⟨by decide, by decide, by decide +kernel⟩, by decide⟩
theorem st_X10_within : Cond.static yX10_within ∈ pv_W := pv_mem (pv_m6 (i := 51) rfl) rfl
theorem md_X10_write : pv_MD yX10_write cX10_write 5 (some .long) 3 := ⟨pv_mem (pv_m7 (i := 226) rfl) rfl, pv_mem (pv_m1 (i := 16) rfl) rfl, ⟨by decide, by decide, by decide +kernel⟩, by decide⟩
theorem im_X10_write : Cond.instanceMethod yX10_write ∈ pv_W := pv_mem (pv_m7 (i := 224) rfl) rfl
theorem se_X10_write : Cond.selects (pv_cn 10) yX10_write yX10_write ∈ pv_W := pv_mem (pv_m7 (i := 225) rfl) rfl
theorem md_J0_charAt_5068e : pv_MD yJ0_charAt_5068e cJ0_charAt_5068e 2 (some .char) 1 := ⟨pv_mem (pv_m6 (i := 80) rfl) rfl, pv_mem (pv_m1 (i := 8) rfl) rfl, ⟨by decide, by decide, by decide +kernel⟩, by decide⟩
theorem im_J0_charAt_5068e : Cond.instanceMethod yJ0_charAt_5068e ∈ pv_W := pv_mem (pv_m6 (i := 78) rfl) rfl
theorem md_J0_checkBoundsOffCount_cabcc : pv_MD yJ0_checkBoundsOffCount_cabcc cJ0_checkBoundsOffCount_cabcc 3 (some .int) 3 := ⟨pv_mem (pv_m1 (i := 181) rfl) rfl, pv_mem (pv_m1 (i := 8) rfl) rfl, ⟨by decide, by decide, by decide +kernel⟩, by decide⟩
theorem st_J0_checkBoundsOffCount_cabcc : Cond.static yJ0_checkBoundsOffCount_cabcc ∈ pv_W := pv_mem (pv_m1 (i := 180) rfl) rfl
theorem md_J0_checkIndex_df160 : pv_MD yJ0_checkIndex_df160 cJ0_checkIndex_df160 2 none 2 := ⟨pv_mem (pv_m6 (i := 86) rfl) rfl, pv_mem (pv_m1 (i := 8) rfl) rfl, ⟨by decide, by decide, by decide +kernel⟩, by decide⟩
theorem st_J0_checkIndex_df160 : Cond.static yJ0_checkIndex_df160 ∈ pv_W := pv_mem (pv_m6 (i := 85) rfl) rfl
theorem md_J0_coder_7d493 : pv_MD yJ0_coder_7d493 cJ0_coder_7d493 1 (some .byte) 0 := ⟨pv_mem (pv_m6 (i := 76) rfl) rfl, pv_mem (pv_m1 (i := 8) rfl) rfl, ⟨by decide, by decide, by decide +kernel⟩, by decide⟩
theorem im_J0_coder_7d493 : Cond.instanceMethod yJ0_coder_7d493 ∈ pv_W := pv_mem (pv_m6 (i := 74) rfl) rfl
theorem md_J0_isLatin1_aae02 : pv_MD yJ0_isLatin1_aae02 cJ0_isLatin1_aae02 1 (some .boolean) 0 := ⟨pv_mem (pv_m1 (i := 158) rfl) rfl, pv_mem (pv_m1 (i := 8) rfl) rfl, ⟨by decide, by decide, by decide +kernel⟩, by decide⟩
theorem im_J0_isLatin1_aae02 : Cond.instanceMethod yJ0_isLatin1_aae02 ∈ pv_W := pv_mem (pv_m1 (i := 156) rfl) rfl
theorem md_J0_length_8abf5 : pv_MD yJ0_length_8abf5 cJ0_length_8abf5 1 (some .int) 0 := ⟨pv_mem (pv_m6 (i := 72) rfl) rfl, pv_mem (pv_m1 (i := 8) rfl) rfl, ⟨by decide, by decide, by decide +kernel⟩, by decide⟩
theorem im_J0_length_8abf5 : Cond.instanceMethod yJ0_length_8abf5 ∈ pv_W := pv_mem (pv_m6 (i := 70) rfl) rfl
theorem md_J0_toCharArray_70df3 : pv_MD yJ0_toCharArray_70df3 cJ0_toCharArray_70df3 1 (some (.array .char)) 0 := ⟨pv_mem (pv_m1 (i := 154) rfl) rfl, pv_mem (pv_m1 (i := 8) rfl) rfl, ⟨by decide, by decide, by decide +kernel⟩, by decide⟩
theorem im_J0_toCharArray_70df3 : Cond.instanceMethod yJ0_toCharArray_70df3 ∈ pv_W := pv_mem (pv_m1 (i := 152) rfl) rfl
theorem md_J1_charAt_3b067 : pv_MD yJ1_charAt_3b067 cJ1_charAt_3b067 2 (some .char) 2 := ⟨pv_mem (pv_m6 (i := 83) rfl) rfl, pv_mem (pv_m1 (i := 9) rfl) rfl, ⟨by decide, by decide, by decide +kernel⟩, by decide⟩
theorem st_J1_charAt_3b067 : Cond.static yJ1_charAt_3b067 ∈ pv_W := pv_mem (pv_m6 (i := 82) rfl) rfl
theorem md_J1_inflate_03870 : pv_MD yJ1_inflate_03870 cJ1_inflate_03870 6 none 5 := ⟨pv_mem (pv_m1 (i := 166) rfl) rfl, pv_mem (pv_m1 (i := 9) rfl) rfl, ⟨by decide, by decide, by decide +kernel⟩, by decide⟩
theorem st_J1_inflate_03870 : Cond.static yJ1_inflate_03870 ∈ pv_W := pv_mem (pv_m1 (i := 165) rfl) rfl
theorem md_J1_toChars_9d188 : pv_MD yJ1_toChars_9d188 cJ1_toChars_9d188 2 (some (.array .char)) 1 := ⟨pv_mem (pv_m1 (i := 163) rfl) rfl, pv_mem (pv_m1 (i := 9) rfl) rfl, ⟨by decide, by decide, by decide +kernel⟩, by decide⟩
theorem st_J1_toChars_9d188 : Cond.static yJ1_toChars_9d188 ∈ pv_W := pv_mem (pv_m1 (i := 162) rfl) rfl
theorem md_J2_charAt_3b067 : pv_MD yJ2_charAt_3b067 cJ2_charAt_3b067 2 (some .char) 2 := ⟨pv_mem (pv_m6 (i := 92) rfl) rfl, pv_mem (pv_m1 (i := 10) rfl) rfl, ⟨by decide, by decide, by decide +kernel⟩, by decide⟩
theorem st_J2_charAt_3b067 : Cond.static yJ2_charAt_3b067 ∈ pv_W := pv_mem (pv_m6 (i := 91) rfl) rfl
theorem md_J2_checkBoundsOffCount_d044e : pv_MD yJ2_checkBoundsOffCount_d044e cJ2_checkBoundsOffCount_d044e 3 none 3 := ⟨pv_mem (pv_m1 (i := 175) rfl) rfl, pv_mem (pv_m1 (i := 10) rfl) rfl, ⟨by decide, by decide, by decide +kernel⟩, by decide⟩
theorem st_J2_checkBoundsOffCount_d044e : Cond.static yJ2_checkBoundsOffCount_d044e ∈ pv_W := pv_mem (pv_m1 (i := 174) rfl) rfl
theorem md_J2_checkIndex_2214a : pv_MD yJ2_checkIndex_2214a cJ2_checkIndex_2214a 2 none 2 := ⟨pv_mem (pv_m6 (i := 95) rfl) rfl, pv_mem (pv_m1 (i := 10) rfl) rfl, ⟨by decide, by decide, by decide +kernel⟩, by decide⟩
theorem st_J2_checkIndex_2214a : Cond.static yJ2_checkIndex_2214a ∈ pv_W := pv_mem (pv_m6 (i := 94) rfl) rfl
theorem md_J2_getChar_3b067 : pv_MD yJ2_getChar_3b067 cJ2_getChar_3b067 2 (some .char) 2 := ⟨pv_mem (pv_m1 (i := 189) rfl) rfl, pv_mem (pv_m1 (i := 10) rfl) rfl, ⟨by decide, by decide, by decide +kernel⟩, by decide⟩
theorem st_J2_getChar_3b067 : Cond.static yJ2_getChar_3b067 ∈ pv_W := pv_mem (pv_m1 (i := 188) rfl) rfl
theorem md_J2_getChars_a1a8b : pv_MD yJ2_getChars_a1a8b cJ2_getChars_a1a8b 6 none 5 := ⟨pv_mem (pv_m1 (i := 172) rfl) rfl, pv_mem (pv_m1 (i := 10) rfl) rfl, ⟨by decide, by decide, by decide +kernel⟩, by decide⟩
theorem st_J2_getChars_a1a8b : Cond.static yJ2_getChars_a1a8b ∈ pv_W := pv_mem (pv_m1 (i := 171) rfl) rfl
theorem md_J2_length_9d52b : pv_MD yJ2_length_9d52b cJ2_length_9d52b 1 (some .int) 1 := ⟨pv_mem (pv_m1 (i := 178) rfl) rfl, pv_mem (pv_m1 (i := 10) rfl) rfl, ⟨by decide, by decide, by decide +kernel⟩, by decide⟩
theorem st_J2_length_9d52b : Cond.static yJ2_length_9d52b ∈ pv_W := pv_mem (pv_m1 (i := 177) rfl) rfl
theorem md_J2_toChars_9d188 : pv_MD yJ2_toChars_9d188 cJ2_toChars_9d188 2 (some (.array .char)) 1 := ⟨pv_mem (pv_m1 (i := 169) rfl) rfl, pv_mem (pv_m1 (i := 10) rfl) rfl, ⟨by decide, by decide, by decide +kernel⟩, by decide⟩
theorem st_J2_toChars_9d188 : Cond.static yJ2_toChars_9d188 ∈ pv_W := pv_mem (pv_m1 (i := 168) rfl) rfl
theorem md_J7_fill_53178 : pv_MD yJ7_fill_53178 cJ7_fill_53178 4 none 2 := ⟨pv_mem (pv_m3 (i := 233) rfl) rfl, pv_mem (pv_m1 (i := 18) rfl) rfl, ⟨by decide, by decide, by decide +kernel⟩, by decide⟩
theorem st_J7_fill_53178 : Cond.static yJ7_fill_53178 ∈ pv_W := pv_mem (pv_m3 (i := 232) rfl) rfl
theorem md_J7_fill_d0a16 : pv_MD yJ7_fill_d0a16 cJ7_fill_d0a16 5 none 2 := ⟨pv_mem (pv_m5 (i := 23) rfl) rfl, pv_mem (pv_m1 (i := 18) rfl) rfl, ⟨by decide, by decide, by decide +kernel⟩, by decide⟩
theorem st_J7_fill_d0a16 : Cond.static yJ7_fill_d0a16 ∈ pv_W := pv_mem (pv_m5 (i := 22) rfl) rfl
theorem md_J3_checkFromIndexSize_8c36e : pv_MD yJ3_checkFromIndexSize_8c36e cJ3_checkFromIndexSize_8c36e 4 (some .int) 4 := ⟨pv_mem (pv_m1 (i := 186) rfl) rfl, pv_mem (pv_m1 (i := 11) rfl) rfl, ⟨by decide, by decide, by decide +kernel⟩, by decide⟩
theorem st_J3_checkFromIndexSize_8c36e : Cond.static yJ3_checkFromIndexSize_8c36e ∈ pv_W := pv_mem (pv_m1 (i := 185) rfl) rfl
theorem md_J3_checkIndex_8e157 : pv_MD yJ3_checkIndex_8e157 cJ3_checkIndex_8e157 3 (some .int) 3 := ⟨pv_mem (pv_m6 (i := 89) rfl) rfl, pv_mem (pv_m1 (i := 11) rfl) rfl, ⟨by decide, by decide, by decide +kernel⟩, by decide⟩
theorem st_J3_checkIndex_8e157 : Cond.static yJ3_checkIndex_8e157 ∈ pv_W := pv_mem (pv_m6 (i := 88) rfl) rfl
theorem w_acn : Cond.native arraycopyName ∈ pv_W := pv_mem (pv_m1 (i := 112) rfl) rfl
theorem w_acs : Cond.static arraycopyName ∈ pv_W := pv_mem (pv_m1 (i := 111) rfl) rfl
theorem w_aci : Cond.initialized "java/lang/System" ∈ pv_W := pv_mem (pv_m1 (i := 6) rfl) rfl
theorem w_mai : Cond.initialized "java/lang/Math" ∈ pv_W := pv_mem (pv_m1 (i := 17) rfl) rfl
theorem w_maxs : Cond.static Lib.Math.max.name ∈ pv_W := pv_mem (pv_m3 (i := 42) rfl) rfl
theorem w_maxc : Cond.code Lib.Math.max.name Lib.Math.max.code 2 (some .int) ∈ pv_W := pv_mem (pv_m3 (i := 43) rfl) rfl
theorem w_mins : Cond.static Lib.Math.min.name ∈ pv_W := pv_mem (pv_m2 (i := 231) rfl) rfl
theorem w_minc : Cond.code Lib.Math.min.name Lib.Math.min.code 2 (some .int) ∈ pv_W := pv_mem (pv_m2 (i := 232) rfl) rfl
theorem w_abss : Cond.static Lib.Math.abs.name ∈ pv_W := pv_mem (pv_m4 (i := 65) rfl) rfl
theorem w_absc : Cond.code Lib.Math.abs.name Lib.Math.abs.code 1 (some .int) ∈ pv_W := pv_mem (pv_m4 (i := 66) rfl) rfl
theorem w_oii : Cond.instanceMethod Lib.objectInit ∈ pv_W := pv_mem (pv_m1 (i := 25) rfl) rfl
theorem w_oic : Cond.code Lib.objectInit ⟨#[0xb1]⟩ 1 none ∈ pv_W := pv_mem (pv_m1 (i := 26) rfl) rfl
theorem w_ar_int : Cond.arrayClass .int ∈ pv_W := pv_mem (pv_m1 (i := 76) rfl) rfl
theorem w_ar_long : Cond.arrayClass .long ∈ pv_W := pv_mem (pv_m2 (i := 181) rfl) rfl
theorem w_ar_boolean : Cond.arrayClass .boolean ∈ pv_W := pv_mem (pv_m6 (i := 36) rfl) rfl
theorem w_ar_byte : Cond.arrayClass .byte ∈ pv_W := pv_mem (pv_m2 (i := 6) rfl) rfl
theorem w_ar_char : Cond.arrayClass .char ∈ pv_W := pv_mem (pv_m2 (i := 7) rfl) rfl
theorem ii_X9 : Cond.initialized RX9 ∈ pv_W := pv_mem (pv_m1 (i := 1) rfl) rfl
theorem ii_X4 : Cond.initialized RX4 ∈ pv_W := pv_mem (pv_m1 (i := 2) rfl) rfl
theorem ii_X5 : Cond.initialized RX5 ∈ pv_W := pv_mem (pv_m1 (i := 3) rfl) rfl
theorem ii_X0 : Cond.initialized RX0 ∈ pv_W := pv_mem (pv_m1 (i := 4) rfl) rfl
theorem ii_X2 : Cond.initialized RX2 ∈ pv_W := pv_mem (pv_m1 (i := 5) rfl) rfl
theorem ii_X3 : Cond.initialized RX3 ∈ pv_W := pv_mem (pv_m1 (i := 7) rfl) rfl
theorem ii_X8 : Cond.initialized RX8 ∈ pv_W := pv_mem (pv_m1 (i := 12) rfl) rfl
theorem ii_X7 : Cond.initialized RX7 ∈ pv_W := pv_mem (pv_m1 (i := 13) rfl) rfl
theorem ii_X1 : Cond.initialized RX1 ∈ pv_W := pv_mem (pv_m1 (i := 14) rfl) rfl
theorem ii_X6 : Cond.initialized RX6 ∈ pv_W := pv_mem (pv_m1 (i := 15) rfl) rfl
theorem ii_X10 : Cond.initialized RX10 ∈ pv_W := pv_mem (pv_m1 (i := 16) rfl) rfl
theorem in_X9 : Cond.instantiable RX9 8 ∈ pv_W := pv_mem (pv_m1 (i := 20) rfl) rfl
theorem cl_X9_7 : Cond.classLink RX9 7 RX4 ∈ pv_W := pv_mem (pv_m1 (i := 27) rfl) rfl
theorem in_X4 : Cond.instantiable RX4 14 ∈ pv_W := pv_mem (pv_m1 (i := 28) rfl) rfl
theorem cl_X4_15 : Cond.classLink RX4 15 RX5 ∈ pv_W := pv_mem (pv_m1 (i := 33) rfl) rfl
theorem in_X5 : Cond.instantiable RX5 7 ∈ pv_W := pv_mem (pv_m1 (i := 34) rfl) rfl
theorem cl_X4_22 : Cond.classLink RX4 22 RX0 ∈ pv_W := pv_mem (pv_m1 (i := 77) rfl) rfl
theorem in_X0 : Cond.instantiable RX0 4 ∈ pv_W := pv_mem (pv_m1 (i := 78) rfl) rfl
theorem cl_X4_29 : Cond.classLink RX4 29 RX2 ∈ pv_W := pv_mem (pv_m1 (i := 98) rfl) rfl
theorem in_X2 : Cond.instantiable RX2 2 ∈ pv_W := pv_mem (pv_m1 (i := 99) rfl) rfl
theorem cl_X4_36 : Cond.classLink RX4 36 RX3 ∈ pv_W := pv_mem (pv_m1 (i := 125) rfl) rfl
theorem in_X3 : Cond.instantiable RX3 5 ∈ pv_W := pv_mem (pv_m1 (i := 126) rfl) rfl
theorem cl_X9_16 : Cond.classLink RX9 16 RX8 ∈ pv_W := pv_mem (pv_m2 (i := 8) rfl) rfl
theorem in_X8 : Cond.instantiable RX8 7 ∈ pv_W := pv_mem (pv_m2 (i := 9) rfl) rfl
theorem cl_X8_9 : Cond.classLink RX8 9 RX5 ∈ pv_W := pv_mem (pv_m2 (i := 14) rfl) rfl
theorem cl_X8_17 : Cond.classLink RX8 17 RX0 ∈ pv_W := pv_mem (pv_m2 (i := 16) rfl) rfl
theorem cl_X8_23 : Cond.classLink RX8 23 RX2 ∈ pv_W := pv_mem (pv_m2 (i := 18) rfl) rfl
theorem cl_X8_30 : Cond.classLink RX8 30 RX3 ∈ pv_W := pv_mem (pv_m2 (i := 20) rfl) rfl
theorem cl_X8_37 : Cond.classLink RX8 37 RX7 ∈ pv_W := pv_mem (pv_m2 (i := 22) rfl) rfl
theorem in_X7 : Cond.instantiable RX7 5 ∈ pv_W := pv_mem (pv_m2 (i := 23) rfl) rfl
theorem cl_X9_27 : Cond.classLink RX9 27 RX6 ∈ pv_W := pv_mem (pv_m2 (i := 85) rfl) rfl
theorem cl_X9_37 : Cond.classLink RX9 37 RX1 ∈ pv_W := pv_mem (pv_m2 (i := 87) rfl) rfl
theorem in_X1 : Cond.instantiable RX1 18 ∈ pv_W := pv_mem (pv_m2 (i := 88) rfl) rfl
theorem cl_X1_9 : Cond.classLink RX1 9 RX7 ∈ pv_W := pv_mem (pv_m2 (i := 93) rfl) rfl
theorem cl_X1_18 : Cond.classLink RX1 18 RX5 ∈ pv_W := pv_mem (pv_m2 (i := 95) rfl) rfl
theorem cl_X1_25 : Cond.classLink RX1 25 RX2 ∈ pv_W := pv_mem (pv_m2 (i := 97) rfl) rfl
theorem cl_X9_44 : Cond.classLink RX9 44 RX5 ∈ pv_W := pv_mem (pv_m2 (i := 157) rfl) rfl
theorem in_X6 : Cond.instantiable RX6 4 ∈ pv_W := pv_mem (pv_m2 (i := 159) rfl) rfl
theorem kc_X5_49 : Cond.constant RX5 49 (Int32.ofInt (1103515245)) ∈ pv_W := pv_mem (pv_m3 (i := 153) rfl) rfl
theorem kc_X1_182 : Cond.constant RX1 182 (Int32.ofInt (1000000)) ∈ pv_W := pv_mem (pv_m4 (i := 2) rfl) rfl
theorem kc_X1_175 : Cond.constant RX1 175 (Int32.ofInt (-100000)) ∈ pv_W := pv_mem (pv_m4 (i := 93) rfl) rfl
theorem in_X10 : Cond.instantiable RX10 66 ∈ pv_W := pv_mem (pv_m5 (i := 68) rfl) rfl
theorem kl_X10_250 : Cond.constantLong RX10 250 (Int64.ofInt (3)) ∈ pv_W := pv_mem (pv_m6 (i := 49) rfl) rfl
theorem kl_X10_210 : Cond.constantLong RX10 210 (Int64.ofInt (6)) ∈ pv_W := pv_mem (pv_m6 (i := 128) rfl) rfl
theorem kl_X10_216 : Cond.constantLong RX10 216 (Int64.ofInt (9)) ∈ pv_W := pv_mem (pv_m6 (i := 137) rfl) rfl
theorem kl_X10_218 : Cond.constantLong RX10 218 (Int64.ofInt (12)) ∈ pv_W := pv_mem (pv_m6 (i := 138) rfl) rfl
theorem kl_X10_220 : Cond.constantLong RX10 220 (Int64.ofInt (14)) ∈ pv_W := pv_mem (pv_m6 (i := 143) rfl) rfl
theorem kl_X10_222 : Cond.constantLong RX10 222 (Int64.ofInt (21)) ∈ pv_W := pv_mem (pv_m6 (i := 144) rfl) rfl
theorem kl_X10_242 : Cond.constantLong RX10 242 (Int64.ofInt (27)) ∈ pv_W := pv_mem (pv_m6 (i := 165) rfl) rfl
theorem kl_X10_244 : Cond.constantLong RX10 244 (Int64.ofInt (36)) ∈ pv_W := pv_mem (pv_m6 (i := 166) rfl) rfl
theorem kl_X10_246 : Cond.constantLong RX10 246 (Int64.ofInt (30)) ∈ pv_W := pv_mem (pv_m6 (i := 167) rfl) rfl
theorem kl_X10_248 : Cond.constantLong RX10 248 (Int64.ofInt (32)) ∈ pv_W := pv_mem (pv_m6 (i := 168) rfl) rfl
theorem kl_X10_280 : Cond.constantLong RX10 280 (Int64.ofInt (4)) ∈ pv_W := pv_mem (pv_m6 (i := 185) rfl) rfl
theorem kc_X10_276 : Cond.constant RX10 276 (Int32.ofInt (1103515245)) ∈ pv_W := pv_mem (pv_m6 (i := 202) rfl) rfl
theorem kl_X10_315 : Cond.constantLong RX10 315 (Int64.ofInt (3999)) ∈ pv_W := pv_mem (pv_m6 (i := 210) rfl) rfl
theorem kl_X10_323 : Cond.constantLong RX10 323 (Int64.ofInt (100)) ∈ pv_W := pv_mem (pv_m7 (i := 26) rfl) rfl
theorem kc_X10_334 : Cond.constant RX10 334 (Int32.ofInt (1000000)) ∈ pv_W := pv_mem (pv_m7 (i := 27) rfl) rfl
theorem kl_X10_407 : Cond.constantLong RX10 407 (Int64.ofInt (5)) ∈ pv_W := pv_mem (pv_m7 (i := 68) rfl) rfl
theorem kl_X10_409 : Cond.constantLong RX10 409 (Int64.ofInt (7)) ∈ pv_W := pv_mem (pv_m7 (i := 73) rfl) rfl
theorem kl_X10_411 : Cond.constantLong RX10 411 (Int64.ofInt (2)) ∈ pv_W := pv_mem (pv_m7 (i := 86) rfl) rfl
theorem kc_X10_413 : Cond.constant RX10 413 (Int32.ofInt (-100000)) ∈ pv_W := pv_mem (pv_m7 (i := 87) rfl) rfl
theorem kl_X10_417 : Cond.constantLong RX10 417 (Int64.ofInt (999)) ∈ pv_W := pv_mem (pv_m7 (i := 108) rfl) rfl
theorem kl_X10_423 : Cond.constantLong RX10 423 (Int64.ofInt (99)) ∈ pv_W := pv_mem (pv_m7 (i := 125) rfl) rfl
theorem kl_X10_428 : Cond.constantLong RX10 428 (Int64.ofInt (60)) ∈ pv_W := pv_mem (pv_m7 (i := 138) rfl) rfl
theorem kl_X10_462 : Cond.constantLong RX10 462 (Int64.ofInt (10)) ∈ pv_W := pv_mem (pv_m8 (i := 10) rfl) rfl
theorem kl_X10_464 : Cond.constantLong RX10 464 (Int64.ofInt (20)) ∈ pv_W := pv_mem (pv_m8 (i := 11) rfl) rfl
theorem kl_X10_466 : Cond.constantLong RX10 466 (Int64.ofInt (23)) ∈ pv_W := pv_mem (pv_m8 (i := 12) rfl) rfl
theorem kl_X10_468 : Cond.constantLong RX10 468 (Int64.ofInt (33)) ∈ pv_W := pv_mem (pv_m8 (i := 13) rfl) rfl
