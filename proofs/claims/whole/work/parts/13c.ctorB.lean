def pv_sc : pv_Sh := [(0, 9), (0, 4), (0, 5), (1, 60), (1, 60), (1, 60), (1, 60), (1, 60), (0, 0), (1, 12), (1, 12), (1, 12), (0, 2), (1, 8), (0, 3), (1, 9), (1, 400), (1, 400), (1, 401), (4, 400), (9, 204), (0, 8), (5, 4), (6, 4), (0, 2), (1, 8), (0, 3), (1, 9), (1, 400), (1, 400), (1, 401), (0, 7), (1, 8), (1, 240), (1, 1200), (1, 60), (0, 5), (1, 60), (1, 60), (1, 60), (1, 60), (1, 60), (0, 5), (1, 60), (1, 60), (1, 60), (1, 60), (1, 60), (0, 5), (1, 60), (1, 60), (1, 60), (1, 60), (1, 60), (0, 5), (1, 60), (1, 60), (1, 60), (1, 60), (1, 60), (0, 0), (1, 12), (1, 12), (1, 12), (0, 0), (1, 12), (1, 12), (1, 12), (0, 0), (1, 12), (1, 12), (1, 12), (0, 0), (1, 12), (1, 12), (1, 12), (7, 2), (8, 4), (1, 8), (0, 1), (0, 7), (1, 8), (1, 240), (1, 1200), (1, 60), (0, 5), (1, 60), (1, 60), (1, 60), (1, 60), (1, 60), (0, 2), (1, 8), (1, 60), (1, 60), (1, 60), (1, 60), (1, 200), (1, 200), (1, 200), (0, 5), (1, 60), (1, 60), (1, 60), (1, 60), (1, 60), (1, 60), (0, 8), (5, 4), (6, 4), (0, 2), (1, 8), (0, 3), (1, 9), (1, 400), (1, 400), (1, 401), (0, 7), (1, 8), (1, 240), (1, 1200), (1, 60), (0, 5), (1, 60), (1, 60), (1, 60), (1, 60), (1, 60), (0, 5), (1, 60), (1, 60), (1, 60), (1, 60), (1, 60), (0, 5), (1, 60), (1, 60), (1, 60), (1, 60), (1, 60), (0, 5), (1, 60), (1, 60), (1, 60), (1, 60), (1, 60), (0, 0), (1, 12), (1, 12), (1, 12), (0, 0), (1, 12), (1, 12), (1, 12), (0, 0), (1, 12), (1, 12), (1, 12), (0, 0), (1, 12), (1, 12), (1, 12), (0, 8), (5, 4), (6, 4), (0, 2), (1, 8), (0, 3), (1, 9), (1, 400), (1, 400), (1, 401), (0, 7), (1, 8), (1, 240), (1, 1200), (1, 60), (0, 5), (1, 60), (1, 60), (1, 60), (1, 60), (1, 60), (0, 5), (1, 60), (1, 60), (1, 60), (1, 60), (1, 60), (0, 5), (1, 60), (1, 60), (1, 60), (1, 60), (1, 60), (0, 5), (1, 60), (1, 60), (1, 60), (1, 60), (1, 60), (0, 0), (1, 12), (1, 12), (1, 12), (0, 0), (1, 12), (1, 12), (1, 12), (0, 0), (1, 12), (1, 12), (1, 12), (0, 0), (1, 12), (1, 12), (1, 12), (0, 6), (2, 60), (0, 6), (2, 60), (0, 6), (2, 60), (0, 6), (2, 60)]
def hC_0 : pv_H := pv_ur (fun _ _ => 0) 0 (pv_nr 9)
def hC_1 : pv_H := pv_ur hC_0 1 (pv_nr 4)
def hC_2 : pv_H := pv_up hC_1 1 2 (-1)
def hC_3 : pv_H := pv_ur hC_2 2 (pv_nr 5)
def hC_4 : pv_H := K_X5 3 hC_3 2
def hC_5 : pv_H := pv_up hC_4 1 3 (2)
def hC_6 : pv_H := pv_ur hC_5 8 (pv_nr 0)
def hC_7 : pv_H := K_X0 9 hC_6 8
def hC_8 : pv_H := pv_up hC_7 1 4 (8)
def hC_9 : pv_H := pv_ur hC_8 12 (pv_nr 2)
def hC_10 : pv_H := K_X2 13 hC_9 12
def hC_11 : pv_H := pv_up hC_10 1 5 (12)
def hC_12 : pv_H := pv_ur hC_11 14 (pv_nr 3)
def hC_13 : pv_H := K_X3 15 hC_12 14
def hC_14 : pv_H := pv_up hC_13 1 6 (14)
def hC_15 : pv_H := pv_ur hC_14 19 (fun _ => 0)
def hC_16 : pv_H := pv_up hC_15 1 7 (19)
def hC_17 : pv_H := K_let 20 hC_16
def hC_18 : pv_H := pv_up hC_17 1 8 (20)
def hC_19 : pv_H := pv_up hC_18 0 0 (1)
def hC_20 : pv_H := pv_ur hC_19 21 (pv_nr 8)
def hC_21 : pv_H := pv_ur hC_20 22 (fun _ => -1)
def hC_22 : pv_H := pv_up hC_21 21 2 (22)
def hC_23 : pv_H := pv_ur hC_22 23 (fun _ => -1)
def hC_24 : pv_H := pv_up hC_23 21 3 (23)
def hC_25 : pv_H := pv_ur hC_24 24 (pv_nr 2)
def hC_26 : pv_H := K_X2 25 hC_25 24
def hC_27 : pv_H := pv_up hC_26 21 4 (24)
def hC_28 : pv_H := pv_ur hC_27 26 (pv_nr 3)
def hC_29 : pv_H := K_X3 27 hC_28 26
def hC_30 : pv_H := pv_up hC_29 21 5 (26)
def hC_31 : pv_H := pv_ur hC_30 31 (pv_nr 7)
def hC_32 : pv_H := K_X7 32 hC_31 31
def hC_33 : pv_H := pv_up hC_32 21 6 (31)
def hC_34 : pv_H := pv_ur hC_33 36 (pv_nr 5)
def hC_35 : pv_H := K_X5 37 hC_34 36
def hC_36 : pv_H := pv_up hC_35 22 0 36
def hC_37 : pv_H := pv_ur hC_36 42 (pv_nr 5)
def hC_38 : pv_H := K_X5 43 hC_37 42
def hC_39 : pv_H := pv_up hC_38 22 1 42
def hC_40 : pv_H := pv_ur hC_39 48 (pv_nr 5)
def hC_41 : pv_H := K_X5 49 hC_40 48
def hC_42 : pv_H := pv_up hC_41 22 2 48
def hC_43 : pv_H := pv_ur hC_42 54 (pv_nr 5)
def hC_44 : pv_H := K_X5 55 hC_43 54
def hC_45 : pv_H := pv_up hC_44 22 3 54
def hC_46 : pv_H := pv_ur hC_45 60 (pv_nr 0)
def hC_47 : pv_H := K_X0 61 hC_46 60
def hC_48 : pv_H := pv_up hC_47 23 0 60
def hC_49 : pv_H := pv_ur hC_48 64 (pv_nr 0)
def hC_50 : pv_H := K_X0 65 hC_49 64
def hC_51 : pv_H := pv_up hC_50 23 1 64
def hC_52 : pv_H := pv_ur hC_51 68 (pv_nr 0)
def hC_53 : pv_H := K_X0 69 hC_52 68
def hC_54 : pv_H := pv_up hC_53 23 2 68
def hC_55 : pv_H := pv_ur hC_54 72 (pv_nr 0)
def hC_56 : pv_H := K_X0 73 hC_55 72
def hC_57 : pv_H := pv_up hC_56 23 3 72
def hC_58 : pv_H := pv_up hC_57 0 1 (21)
def hC_59 : pv_H := pv_ur hC_58 76 (fun _ => -1)
def hC_60 : pv_H := pv_up hC_59 0 2 (76)
def hC_61 : pv_H := pv_ur hC_60 77 (fun _ => -1)
def hC_62 : pv_H := pv_up hC_61 0 3 (77)
def hC_63 : pv_H := pv_ur hC_62 78 (fun _ => 0)
def hC_64 : pv_H := pv_up hC_63 0 4 (78)
def hC_65 : pv_H := pv_ur hC_64 79 (pv_nr 1)
def hC_66 : pv_H := pv_ur hC_65 80 (pv_nr 7)
def hC_67 : pv_H := K_X7 81 hC_66 80
def hC_68 : pv_H := pv_up hC_67 79 0 (80)
def hC_69 : pv_H := pv_ur hC_68 85 (pv_nr 5)
def hC_70 : pv_H := K_X5 86 hC_69 85
def hC_71 : pv_H := pv_up hC_70 79 3 (85)
def hC_72 : pv_H := pv_ur hC_71 91 (pv_nr 2)
def hC_73 : pv_H := K_X2 92 hC_72 91
def hC_74 : pv_H := pv_up hC_73 79 4 (91)
def hC_75 : pv_H := pv_ur hC_74 93 (fun _ => 0)
def hC_76 : pv_H := pv_up hC_75 79 11 (93)
def hC_77 : pv_H := pv_ur hC_76 94 (fun _ => 0)
def hC_78 : pv_H := pv_up hC_77 79 12 (94)
def hC_79 : pv_H := pv_ur hC_78 95 (fun _ => 0)
def hC_80 : pv_H := pv_up hC_79 79 13 (95)
def hC_81 : pv_H := pv_ur hC_80 96 (fun _ => 0)
def hC_82 : pv_H := pv_up hC_81 79 14 (96)
def hC_83 : pv_H := pv_ur hC_82 97 (fun _ => 0)
def hC_84 : pv_H := pv_up hC_83 79 15 (97)
def hC_85 : pv_H := pv_ur hC_84 98 (fun _ => 0)
def hC_86 : pv_H := pv_up hC_85 79 16 (98)
def hC_87 : pv_H := pv_ur hC_86 99 (fun _ => 0)
def hC_88 : pv_H := pv_up hC_87 79 17 (99)
def hC_89 : pv_H := pv_up hC_88 0 5 (79)
def hC_90 : pv_H := pv_ur hC_89 100 (pv_nr 5)
def hC_91 : pv_H := K_X5 101 hC_90 100
def hC_92 : pv_H := pv_up hC_91 0 6 (100)
def hC_93 : pv_H := pv_ur hC_92 106 (fun _ => 0)
def hC_94 : pv_H := pv_up hC_93 0 7 (106)
def hC_95 : pv_H := pv_ur hC_94 107 (pv_nr 8)
def hC_96 : pv_H := pv_ur hC_95 108 (fun _ => -1)
def hC_97 : pv_H := pv_up hC_96 107 2 (108)
def hC_98 : pv_H := pv_ur hC_97 109 (fun _ => -1)
def hC_99 : pv_H := pv_up hC_98 107 3 (109)
def hC_100 : pv_H := pv_ur hC_99 110 (pv_nr 2)
def hC_101 : pv_H := K_X2 111 hC_100 110
def hC_102 : pv_H := pv_up hC_101 107 4 (110)
def hC_103 : pv_H := pv_ur hC_102 112 (pv_nr 3)
def hC_104 : pv_H := K_X3 113 hC_103 112
def hC_105 : pv_H := pv_up hC_104 107 5 (112)
def hC_106 : pv_H := pv_ur hC_105 117 (pv_nr 7)
def hC_107 : pv_H := K_X7 118 hC_106 117
def hC_108 : pv_H := pv_up hC_107 107 6 (117)
def hC_109 : pv_H := pv_ur hC_108 122 (pv_nr 5)
def hC_110 : pv_H := K_X5 123 hC_109 122
def hC_111 : pv_H := pv_up hC_110 108 0 122
def hC_112 : pv_H := pv_ur hC_111 128 (pv_nr 5)
def hC_113 : pv_H := K_X5 129 hC_112 128
def hC_114 : pv_H := pv_up hC_113 108 1 128
def hC_115 : pv_H := pv_ur hC_114 134 (pv_nr 5)
def hC_116 : pv_H := K_X5 135 hC_115 134
def hC_117 : pv_H := pv_up hC_116 108 2 134
def hC_118 : pv_H := pv_ur hC_117 140 (pv_nr 5)
def hC_119 : pv_H := K_X5 141 hC_118 140
def hC_120 : pv_H := pv_up hC_119 108 3 140
def hC_121 : pv_H := pv_ur hC_120 146 (pv_nr 0)
def hC_122 : pv_H := K_X0 147 hC_121 146
def hC_123 : pv_H := pv_up hC_122 109 0 146
def hC_124 : pv_H := pv_ur hC_123 150 (pv_nr 0)
def hC_125 : pv_H := K_X0 151 hC_124 150
def hC_126 : pv_H := pv_up hC_125 109 1 150
def hC_127 : pv_H := pv_ur hC_126 154 (pv_nr 0)
def hC_128 : pv_H := K_X0 155 hC_127 154
def hC_129 : pv_H := pv_up hC_128 109 2 154
def hC_130 : pv_H := pv_ur hC_129 158 (pv_nr 0)
def hC_131 : pv_H := K_X0 159 hC_130 158
def hC_132 : pv_H := pv_up hC_131 109 3 158
def hC_133 : pv_H := pv_up hC_132 76 0 107
def hC_134 : pv_H := pv_ur hC_133 162 (pv_nr 8)
def hC_135 : pv_H := pv_ur hC_134 163 (fun _ => -1)
def hC_136 : pv_H := pv_up hC_135 162 2 (163)
def hC_137 : pv_H := pv_ur hC_136 164 (fun _ => -1)
def hC_138 : pv_H := pv_up hC_137 162 3 (164)
def hC_139 : pv_H := pv_ur hC_138 165 (pv_nr 2)
def hC_140 : pv_H := K_X2 166 hC_139 165
def hC_141 : pv_H := pv_up hC_140 162 4 (165)
def hC_142 : pv_H := pv_ur hC_141 167 (pv_nr 3)
def hC_143 : pv_H := K_X3 168 hC_142 167
def hC_144 : pv_H := pv_up hC_143 162 5 (167)
def hC_145 : pv_H := pv_ur hC_144 172 (pv_nr 7)
def hC_146 : pv_H := K_X7 173 hC_145 172
def hC_147 : pv_H := pv_up hC_146 162 6 (172)
def hC_148 : pv_H := pv_ur hC_147 177 (pv_nr 5)
def hC_149 : pv_H := K_X5 178 hC_148 177
def hC_150 : pv_H := pv_up hC_149 163 0 177
def hC_151 : pv_H := pv_ur hC_150 183 (pv_nr 5)
def hC_152 : pv_H := K_X5 184 hC_151 183
def hC_153 : pv_H := pv_up hC_152 163 1 183
def hC_154 : pv_H := pv_ur hC_153 189 (pv_nr 5)
def hC_155 : pv_H := K_X5 190 hC_154 189
def hC_156 : pv_H := pv_up hC_155 163 2 189
def hC_157 : pv_H := pv_ur hC_156 195 (pv_nr 5)
def hC_158 : pv_H := K_X5 196 hC_157 195
def hC_159 : pv_H := pv_up hC_158 163 3 195
def hC_160 : pv_H := pv_ur hC_159 201 (pv_nr 0)
def hC_161 : pv_H := K_X0 202 hC_160 201
def hC_162 : pv_H := pv_up hC_161 164 0 201
def hC_163 : pv_H := pv_ur hC_162 205 (pv_nr 0)
def hC_164 : pv_H := K_X0 206 hC_163 205
def hC_165 : pv_H := pv_up hC_164 164 1 205
def hC_166 : pv_H := pv_ur hC_165 209 (pv_nr 0)
def hC_167 : pv_H := K_X0 210 hC_166 209
def hC_168 : pv_H := pv_up hC_167 164 2 209
def hC_169 : pv_H := pv_ur hC_168 213 (pv_nr 0)
def hC_170 : pv_H := K_X0 214 hC_169 213
def hC_171 : pv_H := pv_up hC_170 164 3 213
def hC_172 : pv_H := pv_up hC_171 76 1 162
def hC_173 : pv_H := pv_ur hC_172 217 (pv_nr 6)
def hC_174 : pv_H := K_X6 218 hC_173 217
def hC_175 : pv_H := pv_up hC_174 77 0 217
def hC_176 : pv_H := pv_ur hC_175 219 (pv_nr 6)
def hC_177 : pv_H := K_X6 220 hC_176 219
def hC_178 : pv_H := pv_up hC_177 77 1 219
def hC_179 : pv_H := pv_ur hC_178 221 (pv_nr 6)
def hC_180 : pv_H := K_X6 222 hC_179 221
def hC_181 : pv_H := pv_up hC_180 77 2 221
def hC_182 : pv_H := pv_ur hC_181 223 (pv_nr 6)
def hC_183 : pv_H := K_X6 224 hC_182 223
def hC_184 : pv_H := pv_up hC_183 77 3 223
theorem ct_hC_1 {d : Nat} (hd : 5 ≤ d) : CALL yX4_init cX4_init 1 none d (pv_sc.take 2) hC_1 [.inr (.inr 1)] (pv_sc.take 21) hC_18 none := by
  refine EV.call (own := RX4) (ini := true) rfl rfl (fun _ => rfl) ⟨(pv_sc.take 21).drop 2, by decide +kernel⟩ (Nat.le_of_ble_eq_true rfl) ?_
  refine EV.eqL (L2 := [some (.inr (.inr 1))]) rfl ?_
  refine EV.aload_n dX4_init_0 rfl rfl ?_
  refine EV.obj dX4_init_1 ml_X4_3 w_oii w_oic (by omega) (Nat.le_of_ble_eq_true rfl) ?_
  refine EV.aload_n dX4_init_4 rfl rfl ?_
  refine EV.iconst dX4_init_5 (by decide) (by decide) ?_
  refine EV.put dX4_init_6 (by decide +kernel) fl_4_9 rfl ⟨rfl, Or.inl rfl⟩ ?_
  refine EV.eqH (h2 := hC_2) rfl ?_
  refine EV.aload_n dX4_init_9 rfl rfl ?_
  refine EV.newoC (n := 2) (sh2 := (pv_sc.take 3)) (ci := 5) (by decide +kernel) (by decide +kernel) dX4_init_10 (by decide) cl_X4_15 in_X5 ii_X5 (by decide) ⟨(pv_sc.take 21).drop 3, by decide +kernel⟩ ?_
  refine EV.eqH (h2 := hC_3) rfl ?_
  refine EV.dup dX4_init_13 rfl ?_
  refine EV.invN (As := []) (st := [.inr (.inr 2), .inr (.inr 1)]) (d1 := d - 1) (sh1 := (pv_sc.take 8)) (h1 := hC_4) (r1 := none) dX4_init_14 md_X5_init mn_X4_17 im_X5_init rfl (ct_X5 (d := d - 1) (sh := (pv_sc.take 3)) (sh2 := (pv_sc.take 8)) (n := 3) (by decide +kernel) (by decide +kernel) (by decide) (by omega) (by decide +kernel)) (by omega) rfl rfl (Nat.le_of_ble_eq_true rfl) ⟨(pv_sc.take 21).drop 8, by decide +kernel⟩ ?_
  refine EV.putF dX4_init_17 (by decide +kernel) fl_4_18 rfl rfl rfl ⟨rfl, by decide +kernel, rfl⟩ ?_
  refine EV.eqH (h2 := hC_5) rfl ?_
  refine EV.aload_n dX4_init_20 rfl rfl ?_
  refine EV.newoC (n := 8) (sh2 := (pv_sc.take 9)) (ci := 0) (by decide +kernel) (by decide +kernel) dX4_init_21 (by decide) cl_X4_22 in_X0 ii_X0 (by decide) ⟨(pv_sc.take 21).drop 9, by decide +kernel⟩ ?_
  refine EV.eqH (h2 := hC_6) rfl ?_
  refine EV.dup dX4_init_24 rfl ?_
  refine EV.invN (As := []) (st := [.inr (.inr 8), .inr (.inr 1)]) (d1 := d - 1) (sh1 := (pv_sc.take 12)) (h1 := hC_7) (r1 := none) dX4_init_25 md_X0_init mn_X4_24 im_X0_init rfl (ct_X0 (d := d - 1) (sh := (pv_sc.take 9)) (sh2 := (pv_sc.take 12)) (n := 9) (by decide +kernel) (by decide +kernel) (by decide) (by omega) (by decide +kernel)) (by omega) rfl rfl (Nat.le_of_ble_eq_true rfl) ⟨(pv_sc.take 21).drop 12, by decide +kernel⟩ ?_
  refine EV.putF dX4_init_28 (by decide +kernel) fl_4_25 rfl rfl rfl ⟨rfl, by decide +kernel, rfl⟩ ?_
  refine EV.eqH (h2 := hC_8) rfl ?_
  refine EV.aload_n dX4_init_31 rfl rfl ?_
  refine EV.newoC (n := 12) (sh2 := (pv_sc.take 13)) (ci := 2) (by decide +kernel) (by decide +kernel) dX4_init_32 (by decide) cl_X4_29 in_X2 ii_X2 (by decide) ⟨(pv_sc.take 21).drop 13, by decide +kernel⟩ ?_
  refine EV.eqH (h2 := hC_9) rfl ?_
  refine EV.dup dX4_init_35 rfl ?_
  refine EV.invI (As := []) (st := [.inr (.inr 12), .inr (.inr 1)]) (d1 := d - 1) (sh1 := (pv_sc.take 14)) (h1 := hC_10) (r1 := none) dX4_init_36 md_X2_init ml_X4_31 im_X2_init rfl (ct_X2 (d := d - 1) (sh := (pv_sc.take 13)) (sh2 := (pv_sc.take 14)) (n := 13) (by decide +kernel) (by decide +kernel) (by decide) (by omega) (by decide +kernel)) (by omega) rfl rfl (Nat.le_of_ble_eq_true rfl) ⟨(pv_sc.take 21).drop 14, by decide +kernel⟩ ?_
  refine EV.putF dX4_init_39 (by decide +kernel) fl_4_32 rfl rfl rfl ⟨rfl, by decide +kernel, rfl⟩ ?_
  refine EV.eqH (h2 := hC_11) rfl ?_
  refine EV.aload_n dX4_init_42 rfl rfl ?_
  refine EV.newoC (n := 14) (sh2 := (pv_sc.take 15)) (ci := 3) (by decide +kernel) (by decide +kernel) dX4_init_43 (by decide) cl_X4_36 in_X3 ii_X3 (by decide) ⟨(pv_sc.take 21).drop 15, by decide +kernel⟩ ?_
  refine EV.eqH (h2 := hC_12) rfl ?_
  refine EV.dup dX4_init_46 rfl ?_
  refine EV.invN (As := []) (st := [.inr (.inr 14), .inr (.inr 1)]) (d1 := d - 1) (sh1 := (pv_sc.take 19)) (h1 := hC_13) (r1 := none) dX4_init_47 md_X3_init mn_X4_38 im_X3_init rfl (ct_X3 (d := d - 1) (sh := (pv_sc.take 15)) (sh2 := (pv_sc.take 19)) (n := 15) (by decide +kernel) (by decide +kernel) (by decide) (by omega) (by decide +kernel)) (by omega) rfl rfl (Nat.le_of_ble_eq_true rfl) ⟨(pv_sc.take 21).drop 19, by decide +kernel⟩ ?_
  refine EV.putF dX4_init_50 (by decide +kernel) fl_4_39 rfl rfl rfl ⟨rfl, by decide +kernel, rfl⟩ ?_
  refine EV.eqH (h2 := hC_14) rfl ?_
  refine EV.aload_n dX4_init_53 rfl rfl ?_
  refine EV.sipush dX4_init_54 (by decide) (by decide) ?_
  refine EV.newaC4 (n := 19) (m := 400) (sh2 := (pv_sc.take 20)) (by decide +kernel) rfl (by decide +kernel) dX4_init_57 w_ar_byte (by decide) (by decide) (by decide) ⟨(pv_sc.take 21).drop 20, by decide +kernel⟩ ?_
  refine EV.eqH (h2 := hC_15) rfl ?_
  refine EV.putF dX4_init_59 (by decide +kernel) fl_4_43 rfl rfl rfl ⟨rfl, by decide +kernel, rfl⟩ ?_
  refine EV.eqH (h2 := hC_16) rfl ?_
  refine EV.aload_n dX4_init_62 rfl rfl ?_
  refine EV.ldcS0 rfl dX4_init_63 ?_
  refine EV.invTG (j := 0) (As := []) (st := [.inr (.inr 1)]) (d1 := d - 1) (sh1 := (pv_sc.take 21)) (h1 := K_let 20 hC_16) (r1 := some (.inr (.inr 20))) (by decide) dX4_init_65 md_J0_toCharArray_70df3 ml_X4_49 im_J0_toCharArray_70df3 se_J0_toCharArray (t_toCA (n := 20) (by decide +kernel) (by decide +kernel) (by omega) (by decide)) (by omega) rfl rfl (Nat.le_of_ble_eq_true rfl) ⟨(pv_sc.take 21).drop 21, by decide +kernel⟩ ?_
  refine EV.eqS (st2 := [.inr (.inr 20), .inr (.inr 1)]) rfl ?_
  refine EV.eqH (h2 := hC_17) rfl ?_
  refine EV.putF dX4_init_68 (by decide +kernel) fl_4_55 rfl rfl rfl ⟨rfl, by decide +kernel, rfl⟩ ?_
  refine EV.eqH (h2 := hC_18) rfl ?_
  exact EV.vret dX4_init_71

theorem ct_hC_21 {d : Nat} (hd : 3 ≤ d) : CALL yX8_init cX8_init 2 none d (pv_sc.take 22) hC_20 [.inr (.inr 21)] (pv_sc.take 76) hC_57 none := by
  refine EV.call (own := RX8) (ini := true) rfl rfl (fun _ => rfl) ⟨(pv_sc.take 76).drop 22, by decide +kernel⟩ (Nat.le_of_ble_eq_true rfl) ?_
  refine EV.eqL (L2 := [some (.inr (.inr 21)), none]) rfl ?_
  refine EV.aload_n dX8_init_0 rfl rfl ?_
  refine EV.obj dX8_init_1 ml_X8_3 w_oii w_oic (by omega) (Nat.le_of_ble_eq_true rfl) ?_
  refine EV.aload_n dX8_init_4 rfl rfl ?_
  refine EV.iconst dX8_init_5 (by decide) (by decide) ?_
  refine EV.newaC5 (n := 22) (m := 4) (sh2 := (pv_sc.take 23)) (by decide +kernel) rfl (by decide +kernel) dX8_init_6 cl_X8_9 (by decide) (by decide) (by decide) ⟨(pv_sc.take 76).drop 23, by decide +kernel⟩ ?_
  refine EV.eqH (h2 := hC_21) rfl ?_
  refine EV.putF dX8_init_9 (by decide +kernel) fl_8_11 rfl rfl rfl ⟨rfl, by decide +kernel, rfl⟩ ?_
  refine EV.eqH (h2 := hC_22) rfl ?_
  refine EV.aload_n dX8_init_12 rfl rfl ?_
  refine EV.iconst dX8_init_13 (by decide) (by decide) ?_
  refine EV.newaC6 (n := 23) (m := 4) (sh2 := (pv_sc.take 24)) (by decide +kernel) rfl (by decide +kernel) dX8_init_14 cl_X8_17 (by decide) (by decide) (by decide) ⟨(pv_sc.take 76).drop 24, by decide +kernel⟩ ?_
  refine EV.eqH (h2 := hC_23) rfl ?_
  refine EV.putF dX8_init_17 (by decide +kernel) fl_8_19 rfl rfl rfl ⟨rfl, by decide +kernel, rfl⟩ ?_
  refine EV.eqH (h2 := hC_24) rfl ?_
  refine EV.aload_n dX8_init_20 rfl rfl ?_
  refine EV.newoC (n := 24) (sh2 := (pv_sc.take 25)) (ci := 2) (by decide +kernel) (by decide +kernel) dX8_init_21 (by decide) cl_X8_23 in_X2 ii_X2 (by decide) ⟨(pv_sc.take 76).drop 25, by decide +kernel⟩ ?_
  refine EV.eqH (h2 := hC_25) rfl ?_
  refine EV.dup dX8_init_24 rfl ?_
  refine EV.invI (As := []) (st := [.inr (.inr 24), .inr (.inr 21)]) (d1 := d - 1) (sh1 := (pv_sc.take 26)) (h1 := hC_26) (r1 := none) dX8_init_25 md_X2_init ml_X8_25 im_X2_init rfl (ct_X2 (d := d - 1) (sh := (pv_sc.take 25)) (sh2 := (pv_sc.take 26)) (n := 25) (by decide +kernel) (by decide +kernel) (by decide) (by omega) (by decide +kernel)) (by omega) rfl rfl (Nat.le_of_ble_eq_true rfl) ⟨(pv_sc.take 76).drop 26, by decide +kernel⟩ ?_
  refine EV.putF dX8_init_28 (by decide +kernel) fl_8_26 rfl rfl rfl ⟨rfl, by decide +kernel, rfl⟩ ?_
  refine EV.eqH (h2 := hC_27) rfl ?_
  refine EV.aload_n dX8_init_31 rfl rfl ?_
  refine EV.newoC (n := 26) (sh2 := (pv_sc.take 27)) (ci := 3) (by decide +kernel) (by decide +kernel) dX8_init_32 (by decide) cl_X8_30 in_X3 ii_X3 (by decide) ⟨(pv_sc.take 76).drop 27, by decide +kernel⟩ ?_
  refine EV.eqH (h2 := hC_28) rfl ?_
  refine EV.dup dX8_init_35 rfl ?_
  refine EV.invN (As := []) (st := [.inr (.inr 26), .inr (.inr 21)]) (d1 := d - 1) (sh1 := (pv_sc.take 31)) (h1 := hC_29) (r1 := none) dX8_init_36 md_X3_init mn_X8_32 im_X3_init rfl (ct_X3 (d := d - 1) (sh := (pv_sc.take 27)) (sh2 := (pv_sc.take 31)) (n := 27) (by decide +kernel) (by decide +kernel) (by decide) (by omega) (by decide +kernel)) (by omega) rfl rfl (Nat.le_of_ble_eq_true rfl) ⟨(pv_sc.take 76).drop 31, by decide +kernel⟩ ?_
  refine EV.putF dX8_init_39 (by decide +kernel) fl_8_33 rfl rfl rfl ⟨rfl, by decide +kernel, rfl⟩ ?_
  refine EV.eqH (h2 := hC_30) rfl ?_
  refine EV.aload_n dX8_init_42 rfl rfl ?_
  refine EV.newoC (n := 31) (sh2 := (pv_sc.take 32)) (ci := 7) (by decide +kernel) (by decide +kernel) dX8_init_43 (by decide) cl_X8_37 in_X7 ii_X7 (by decide) ⟨(pv_sc.take 76).drop 32, by decide +kernel⟩ ?_
  refine EV.eqH (h2 := hC_31) rfl ?_
  refine EV.dup dX8_init_46 rfl ?_
  refine EV.invN (As := []) (st := [.inr (.inr 31), .inr (.inr 21)]) (d1 := d - 1) (sh1 := (pv_sc.take 36)) (h1 := hC_32) (r1 := none) dX8_init_47 md_X7_init mn_X8_39 im_X7_init rfl (ct_X7 (d := d - 1) (sh := (pv_sc.take 32)) (sh2 := (pv_sc.take 36)) (n := 32) (by decide +kernel) (by decide +kernel) (by decide) (by omega) (by decide +kernel)) (by omega) rfl rfl (Nat.le_of_ble_eq_true rfl) ⟨(pv_sc.take 76).drop 36, by decide +kernel⟩ ?_
  refine EV.putF dX8_init_50 (by decide +kernel) fl_8_40 rfl rfl rfl ⟨rfl, by decide +kernel, rfl⟩ ?_
  refine EV.eqH (h2 := hC_33) rfl ?_
  refine EV.iconst dX8_init_53 (by decide) (by decide) ?_
  refine EV.istore_n dX8_init_54 rfl (by decide) ?_
  refine EV.eqL (L2 := [some (.inr (.inr 21)), some (.inl (0))]) rfl ?_
  refine EV.iload_n dX8_init_55 rfl rfl ?_
  refine EV.iconst dX8_init_56 (by decide) (by decide) ?_
  refine EV.icmp_ge (tgt := 79) dX8_init_57 (by decide) (fun q => absurd q (by decide)) (fun _ => ?_)
  refine EV.aload_n dX8_init_60 rfl rfl ?_
  refine EV.getV (v := 22) dX8_init_61 (by decide +kernel) fl_8_11 rfl (by decide +kernel) ?_
  refine EV.iload_n dX8_init_64 rfl rfl ?_
  refine EV.newoC (n := 36) (sh2 := (pv_sc.take 37)) (ci := 5) (by decide +kernel) (by decide +kernel) dX8_init_65 (by decide) cl_X8_9 in_X5 ii_X5 (by decide) ⟨(pv_sc.take 76).drop 37, by decide +kernel⟩ ?_
  refine EV.eqH (h2 := hC_34) rfl ?_
  refine EV.dup dX8_init_68 rfl ?_
  refine EV.invN (As := []) (st := [.inr (.inr 36), .inl (0), .inr (.inr 22)]) (d1 := d - 1) (sh1 := (pv_sc.take 42)) (h1 := hC_35) (r1 := none) dX8_init_69 md_X5_init mn_X8_44 im_X5_init rfl (ct_X5 (d := d - 1) (sh := (pv_sc.take 37)) (sh2 := (pv_sc.take 42)) (n := 37) (by decide +kernel) (by decide +kernel) (by decide) (by omega) (by decide +kernel)) (by omega) rfl rfl (Nat.le_of_ble_eq_true rfl) ⟨(pv_sc.take 76).drop 42, by decide +kernel⟩ ?_
  refine EV.aast (a := 5) (ci := 5) (n := 4) dX8_init_72 (by decide +kernel) (by decide) (by decide +kernel) (by decide) (by decide) ?_
  refine EV.eqH (h2 := hC_36) rfl ?_
  refine EV.iinc dX8_init_73 rfl (by decide) ?_
  refine EV.eqL (L2 := [some (.inr (.inr 21)), some (.inl (1))]) (by decide +kernel) ?_
  refine EV.goto (tgt := 55) dX8_init_76 (by decide) ?_
  refine EV.iload_n dX8_init_55 rfl rfl ?_
  refine EV.iconst dX8_init_56 (by decide) (by decide) ?_
  refine EV.icmp_ge (tgt := 79) dX8_init_57 (by decide) (fun q => absurd q (by decide)) (fun _ => ?_)
  refine EV.aload_n dX8_init_60 rfl rfl ?_
  refine EV.getV (v := 22) dX8_init_61 (by decide +kernel) fl_8_11 rfl (by decide +kernel) ?_
  refine EV.iload_n dX8_init_64 rfl rfl ?_
  refine EV.newoC (n := 42) (sh2 := (pv_sc.take 43)) (ci := 5) (by decide +kernel) (by decide +kernel) dX8_init_65 (by decide) cl_X8_9 in_X5 ii_X5 (by decide) ⟨(pv_sc.take 76).drop 43, by decide +kernel⟩ ?_
  refine EV.eqH (h2 := hC_37) rfl ?_
  refine EV.dup dX8_init_68 rfl ?_
  refine EV.invN (As := []) (st := [.inr (.inr 42), .inl (1), .inr (.inr 22)]) (d1 := d - 1) (sh1 := (pv_sc.take 48)) (h1 := hC_38) (r1 := none) dX8_init_69 md_X5_init mn_X8_44 im_X5_init rfl (ct_X5 (d := d - 1) (sh := (pv_sc.take 43)) (sh2 := (pv_sc.take 48)) (n := 43) (by decide +kernel) (by decide +kernel) (by decide) (by omega) (by decide +kernel)) (by omega) rfl rfl (Nat.le_of_ble_eq_true rfl) ⟨(pv_sc.take 76).drop 48, by decide +kernel⟩ ?_
  refine EV.aast (a := 5) (ci := 5) (n := 4) dX8_init_72 (by decide +kernel) (by decide) (by decide +kernel) (by decide) (by decide) ?_
  refine EV.eqH (h2 := hC_39) rfl ?_
  refine EV.iinc dX8_init_73 rfl (by decide) ?_
  refine EV.eqL (L2 := [some (.inr (.inr 21)), some (.inl (2))]) (by decide +kernel) ?_
  refine EV.goto (tgt := 55) dX8_init_76 (by decide) ?_
  refine EV.iload_n dX8_init_55 rfl rfl ?_
  refine EV.iconst dX8_init_56 (by decide) (by decide) ?_
  refine EV.icmp_ge (tgt := 79) dX8_init_57 (by decide) (fun q => absurd q (by decide)) (fun _ => ?_)
  refine EV.aload_n dX8_init_60 rfl rfl ?_
  refine EV.getV (v := 22) dX8_init_61 (by decide +kernel) fl_8_11 rfl (by decide +kernel) ?_
  refine EV.iload_n dX8_init_64 rfl rfl ?_
  refine EV.newoC (n := 48) (sh2 := (pv_sc.take 49)) (ci := 5) (by decide +kernel) (by decide +kernel) dX8_init_65 (by decide) cl_X8_9 in_X5 ii_X5 (by decide) ⟨(pv_sc.take 76).drop 49, by decide +kernel⟩ ?_
  refine EV.eqH (h2 := hC_40) rfl ?_
  refine EV.dup dX8_init_68 rfl ?_
  refine EV.invN (As := []) (st := [.inr (.inr 48), .inl (2), .inr (.inr 22)]) (d1 := d - 1) (sh1 := (pv_sc.take 54)) (h1 := hC_41) (r1 := none) dX8_init_69 md_X5_init mn_X8_44 im_X5_init rfl (ct_X5 (d := d - 1) (sh := (pv_sc.take 49)) (sh2 := (pv_sc.take 54)) (n := 49) (by decide +kernel) (by decide +kernel) (by decide) (by omega) (by decide +kernel)) (by omega) rfl rfl (Nat.le_of_ble_eq_true rfl) ⟨(pv_sc.take 76).drop 54, by decide +kernel⟩ ?_
  refine EV.aast (a := 5) (ci := 5) (n := 4) dX8_init_72 (by decide +kernel) (by decide) (by decide +kernel) (by decide) (by decide) ?_
  refine EV.eqH (h2 := hC_42) rfl ?_
  refine EV.iinc dX8_init_73 rfl (by decide) ?_
  refine EV.eqL (L2 := [some (.inr (.inr 21)), some (.inl (3))]) (by decide +kernel) ?_
  refine EV.goto (tgt := 55) dX8_init_76 (by decide) ?_
  refine EV.iload_n dX8_init_55 rfl rfl ?_
  refine EV.iconst dX8_init_56 (by decide) (by decide) ?_
  refine EV.icmp_ge (tgt := 79) dX8_init_57 (by decide) (fun q => absurd q (by decide)) (fun _ => ?_)
  refine EV.aload_n dX8_init_60 rfl rfl ?_
  refine EV.getV (v := 22) dX8_init_61 (by decide +kernel) fl_8_11 rfl (by decide +kernel) ?_
  refine EV.iload_n dX8_init_64 rfl rfl ?_
  refine EV.newoC (n := 54) (sh2 := (pv_sc.take 55)) (ci := 5) (by decide +kernel) (by decide +kernel) dX8_init_65 (by decide) cl_X8_9 in_X5 ii_X5 (by decide) ⟨(pv_sc.take 76).drop 55, by decide +kernel⟩ ?_
  refine EV.eqH (h2 := hC_43) rfl ?_
  refine EV.dup dX8_init_68 rfl ?_
  refine EV.invN (As := []) (st := [.inr (.inr 54), .inl (3), .inr (.inr 22)]) (d1 := d - 1) (sh1 := (pv_sc.take 60)) (h1 := hC_44) (r1 := none) dX8_init_69 md_X5_init mn_X8_44 im_X5_init rfl (ct_X5 (d := d - 1) (sh := (pv_sc.take 55)) (sh2 := (pv_sc.take 60)) (n := 55) (by decide +kernel) (by decide +kernel) (by decide) (by omega) (by decide +kernel)) (by omega) rfl rfl (Nat.le_of_ble_eq_true rfl) ⟨(pv_sc.take 76).drop 60, by decide +kernel⟩ ?_
  refine EV.aast (a := 5) (ci := 5) (n := 4) dX8_init_72 (by decide +kernel) (by decide) (by decide +kernel) (by decide) (by decide) ?_
  refine EV.eqH (h2 := hC_45) rfl ?_
  refine EV.iinc dX8_init_73 rfl (by decide) ?_
  refine EV.eqL (L2 := [some (.inr (.inr 21)), some (.inl (4))]) (by decide +kernel) ?_
  refine EV.goto (tgt := 55) dX8_init_76 (by decide) ?_
  refine EV.iload_n dX8_init_55 rfl rfl ?_
  refine EV.iconst dX8_init_56 (by decide) (by decide) ?_
  refine EV.icmp_ge (tgt := 79) dX8_init_57 (by decide) (fun _ => ?_) (fun q => absurd (by decide) q)
  refine EV.iconst dX8_init_79 (by decide) (by decide) ?_
  refine EV.istore_n dX8_init_80 rfl (by decide) ?_
  refine EV.eqL (L2 := [some (.inr (.inr 21)), some (.inl (0))]) rfl ?_
  refine EV.iload_n dX8_init_81 rfl rfl ?_
  refine EV.iconst dX8_init_82 (by decide) (by decide) ?_
  refine EV.icmp_ge (tgt := 105) dX8_init_83 (by decide) (fun q => absurd q (by decide)) (fun _ => ?_)
  refine EV.aload_n dX8_init_86 rfl rfl ?_
  refine EV.getV (v := 23) dX8_init_87 (by decide +kernel) fl_8_19 rfl (by decide +kernel) ?_
  refine EV.iload_n dX8_init_90 rfl rfl ?_
  refine EV.newoC (n := 60) (sh2 := (pv_sc.take 61)) (ci := 0) (by decide +kernel) (by decide +kernel) dX8_init_91 (by decide) cl_X8_17 in_X0 ii_X0 (by decide) ⟨(pv_sc.take 76).drop 61, by decide +kernel⟩ ?_
  refine EV.eqH (h2 := hC_46) rfl ?_
  refine EV.dup dX8_init_94 rfl ?_
  refine EV.invN (As := []) (st := [.inr (.inr 60), .inl (0), .inr (.inr 23)]) (d1 := d - 1) (sh1 := (pv_sc.take 64)) (h1 := hC_47) (r1 := none) dX8_init_95 md_X0_init mn_X8_45 im_X0_init rfl (ct_X0 (d := d - 1) (sh := (pv_sc.take 61)) (sh2 := (pv_sc.take 64)) (n := 61) (by decide +kernel) (by decide +kernel) (by decide) (by omega) (by decide +kernel)) (by omega) rfl rfl (Nat.le_of_ble_eq_true rfl) ⟨(pv_sc.take 76).drop 64, by decide +kernel⟩ ?_
  refine EV.aast (a := 6) (ci := 0) (n := 4) dX8_init_98 (by decide +kernel) (by decide) (by decide +kernel) (by decide) (by decide) ?_
  refine EV.eqH (h2 := hC_48) rfl ?_
  refine EV.iinc dX8_init_99 rfl (by decide) ?_
  refine EV.eqL (L2 := [some (.inr (.inr 21)), some (.inl (1))]) (by decide +kernel) ?_
  refine EV.goto (tgt := 81) dX8_init_102 (by decide) ?_
  refine EV.iload_n dX8_init_81 rfl rfl ?_
  refine EV.iconst dX8_init_82 (by decide) (by decide) ?_
  refine EV.icmp_ge (tgt := 105) dX8_init_83 (by decide) (fun q => absurd q (by decide)) (fun _ => ?_)
  refine EV.aload_n dX8_init_86 rfl rfl ?_
  refine EV.getV (v := 23) dX8_init_87 (by decide +kernel) fl_8_19 rfl (by decide +kernel) ?_
  refine EV.iload_n dX8_init_90 rfl rfl ?_
  refine EV.newoC (n := 64) (sh2 := (pv_sc.take 65)) (ci := 0) (by decide +kernel) (by decide +kernel) dX8_init_91 (by decide) cl_X8_17 in_X0 ii_X0 (by decide) ⟨(pv_sc.take 76).drop 65, by decide +kernel⟩ ?_
  refine EV.eqH (h2 := hC_49) rfl ?_
  refine EV.dup dX8_init_94 rfl ?_
  refine EV.invN (As := []) (st := [.inr (.inr 64), .inl (1), .inr (.inr 23)]) (d1 := d - 1) (sh1 := (pv_sc.take 68)) (h1 := hC_50) (r1 := none) dX8_init_95 md_X0_init mn_X8_45 im_X0_init rfl (ct_X0 (d := d - 1) (sh := (pv_sc.take 65)) (sh2 := (pv_sc.take 68)) (n := 65) (by decide +kernel) (by decide +kernel) (by decide) (by omega) (by decide +kernel)) (by omega) rfl rfl (Nat.le_of_ble_eq_true rfl) ⟨(pv_sc.take 76).drop 68, by decide +kernel⟩ ?_
  refine EV.aast (a := 6) (ci := 0) (n := 4) dX8_init_98 (by decide +kernel) (by decide) (by decide +kernel) (by decide) (by decide) ?_
  refine EV.eqH (h2 := hC_51) rfl ?_
  refine EV.iinc dX8_init_99 rfl (by decide) ?_
  refine EV.eqL (L2 := [some (.inr (.inr 21)), some (.inl (2))]) (by decide +kernel) ?_
  refine EV.goto (tgt := 81) dX8_init_102 (by decide) ?_
  refine EV.iload_n dX8_init_81 rfl rfl ?_
  refine EV.iconst dX8_init_82 (by decide) (by decide) ?_
  refine EV.icmp_ge (tgt := 105) dX8_init_83 (by decide) (fun q => absurd q (by decide)) (fun _ => ?_)
  refine EV.aload_n dX8_init_86 rfl rfl ?_
  refine EV.getV (v := 23) dX8_init_87 (by decide +kernel) fl_8_19 rfl (by decide +kernel) ?_
  refine EV.iload_n dX8_init_90 rfl rfl ?_
  refine EV.newoC (n := 68) (sh2 := (pv_sc.take 69)) (ci := 0) (by decide +kernel) (by decide +kernel) dX8_init_91 (by decide) cl_X8_17 in_X0 ii_X0 (by decide) ⟨(pv_sc.take 76).drop 69, by decide +kernel⟩ ?_
  refine EV.eqH (h2 := hC_52) rfl ?_
  refine EV.dup dX8_init_94 rfl ?_
  refine EV.invN (As := []) (st := [.inr (.inr 68), .inl (2), .inr (.inr 23)]) (d1 := d - 1) (sh1 := (pv_sc.take 72)) (h1 := hC_53) (r1 := none) dX8_init_95 md_X0_init mn_X8_45 im_X0_init rfl (ct_X0 (d := d - 1) (sh := (pv_sc.take 69)) (sh2 := (pv_sc.take 72)) (n := 69) (by decide +kernel) (by decide +kernel) (by decide) (by omega) (by decide +kernel)) (by omega) rfl rfl (Nat.le_of_ble_eq_true rfl) ⟨(pv_sc.take 76).drop 72, by decide +kernel⟩ ?_
  refine EV.aast (a := 6) (ci := 0) (n := 4) dX8_init_98 (by decide +kernel) (by decide) (by decide +kernel) (by decide) (by decide) ?_
  refine EV.eqH (h2 := hC_54) rfl ?_
  refine EV.iinc dX8_init_99 rfl (by decide) ?_
  refine EV.eqL (L2 := [some (.inr (.inr 21)), some (.inl (3))]) (by decide +kernel) ?_
  refine EV.goto (tgt := 81) dX8_init_102 (by decide) ?_
  refine EV.iload_n dX8_init_81 rfl rfl ?_
  refine EV.iconst dX8_init_82 (by decide) (by decide) ?_
  refine EV.icmp_ge (tgt := 105) dX8_init_83 (by decide) (fun q => absurd q (by decide)) (fun _ => ?_)
  refine EV.aload_n dX8_init_86 rfl rfl ?_
  refine EV.getV (v := 23) dX8_init_87 (by decide +kernel) fl_8_19 rfl (by decide +kernel) ?_
  refine EV.iload_n dX8_init_90 rfl rfl ?_
  refine EV.newoC (n := 72) (sh2 := (pv_sc.take 73)) (ci := 0) (by decide +kernel) (by decide +kernel) dX8_init_91 (by decide) cl_X8_17 in_X0 ii_X0 (by decide) ⟨(pv_sc.take 76).drop 73, by decide +kernel⟩ ?_
  refine EV.eqH (h2 := hC_55) rfl ?_
  refine EV.dup dX8_init_94 rfl ?_
  refine EV.invN (As := []) (st := [.inr (.inr 72), .inl (3), .inr (.inr 23)]) (d1 := d - 1) (sh1 := (pv_sc.take 76)) (h1 := hC_56) (r1 := none) dX8_init_95 md_X0_init mn_X8_45 im_X0_init rfl (ct_X0 (d := d - 1) (sh := (pv_sc.take 73)) (sh2 := (pv_sc.take 76)) (n := 73) (by decide +kernel) (by decide +kernel) (by decide) (by omega) (by decide +kernel)) (by omega) rfl rfl (Nat.le_of_ble_eq_true rfl) ⟨(pv_sc.take 76).drop 76, by decide +kernel⟩ ?_
  refine EV.aast (a := 6) (ci := 0) (n := 4) dX8_init_98 (by decide +kernel) (by decide) (by decide +kernel) (by decide) (by decide) ?_
  refine EV.eqH (h2 := hC_57) rfl ?_
  refine EV.iinc dX8_init_99 rfl (by decide) ?_
  refine EV.eqL (L2 := [some (.inr (.inr 21)), some (.inl (4))]) (by decide +kernel) ?_
  refine EV.goto (tgt := 81) dX8_init_102 (by decide) ?_
  refine EV.iload_n dX8_init_81 rfl rfl ?_
  refine EV.iconst dX8_init_82 (by decide) (by decide) ?_
  refine EV.icmp_ge (tgt := 105) dX8_init_83 (by decide) (fun _ => ?_) (fun q => absurd (by decide) q)
  exact EV.vret dX8_init_105

theorem ct_hC_79 {d : Nat} (hd : 3 ≤ d) : CALL yX1_init cX1_init 1 none d (pv_sc.take 80) hC_65 [.inr (.inr 79)] (pv_sc.take 100) hC_88 none := by
  refine EV.call (own := RX1) (ini := true) rfl rfl (fun _ => rfl) ⟨(pv_sc.take 100).drop 80, by decide +kernel⟩ (Nat.le_of_ble_eq_true rfl) ?_
  refine EV.eqL (L2 := [some (.inr (.inr 79))]) rfl ?_
  refine EV.aload_n dX1_init_0 rfl rfl ?_
  refine EV.obj dX1_init_1 ml_X1_3 w_oii w_oic (by omega) (Nat.le_of_ble_eq_true rfl) ?_
  refine EV.aload_n dX1_init_4 rfl rfl ?_
  refine EV.newoC (n := 80) (sh2 := (pv_sc.take 81)) (ci := 7) (by decide +kernel) (by decide +kernel) dX1_init_5 (by decide) cl_X1_9 in_X7 ii_X7 (by decide) ⟨(pv_sc.take 100).drop 81, by decide +kernel⟩ ?_
  refine EV.eqH (h2 := hC_66) rfl ?_
  refine EV.dup dX1_init_8 rfl ?_
  refine EV.invN (As := []) (st := [.inr (.inr 80), .inr (.inr 79)]) (d1 := d - 1) (sh1 := (pv_sc.take 85)) (h1 := hC_67) (r1 := none) dX1_init_9 md_X7_init mn_X1_11 im_X7_init rfl (ct_X7 (d := d - 1) (sh := (pv_sc.take 81)) (sh2 := (pv_sc.take 85)) (n := 81) (by decide +kernel) (by decide +kernel) (by decide) (by omega) (by decide +kernel)) (by omega) rfl rfl (Nat.le_of_ble_eq_true rfl) ⟨(pv_sc.take 100).drop 85, by decide +kernel⟩ ?_
  refine EV.putF dX1_init_12 (by decide +kernel) fl_1_12 rfl rfl rfl ⟨rfl, by decide +kernel, rfl⟩ ?_
  refine EV.eqH (h2 := hC_68) rfl ?_
  refine EV.aload_n dX1_init_15 rfl rfl ?_
  refine EV.newoC (n := 85) (sh2 := (pv_sc.take 86)) (ci := 5) (by decide +kernel) (by decide +kernel) dX1_init_16 (by decide) cl_X1_18 in_X5 ii_X5 (by decide) ⟨(pv_sc.take 100).drop 86, by decide +kernel⟩ ?_
  refine EV.eqH (h2 := hC_69) rfl ?_
  refine EV.dup dX1_init_19 rfl ?_
  refine EV.invN (As := []) (st := [.inr (.inr 85), .inr (.inr 79)]) (d1 := d - 1) (sh1 := (pv_sc.take 91)) (h1 := hC_70) (r1 := none) dX1_init_20 md_X5_init mn_X1_20 im_X5_init rfl (ct_X5 (d := d - 1) (sh := (pv_sc.take 86)) (sh2 := (pv_sc.take 91)) (n := 86) (by decide +kernel) (by decide +kernel) (by decide) (by omega) (by decide +kernel)) (by omega) rfl rfl (Nat.le_of_ble_eq_true rfl) ⟨(pv_sc.take 100).drop 91, by decide +kernel⟩ ?_
  refine EV.put dX1_init_23 (by decide +kernel) fl_1_21 rfl ⟨rfl, by decide +kernel, rfl⟩ ?_
  refine EV.eqH (h2 := hC_71) rfl ?_
  refine EV.aload_n dX1_init_26 rfl rfl ?_
  refine EV.newoC (n := 91) (sh2 := (pv_sc.take 92)) (ci := 2) (by decide +kernel) (by decide +kernel) dX1_init_27 (by decide) cl_X1_25 in_X2 ii_X2 (by decide) ⟨(pv_sc.take 100).drop 92, by decide +kernel⟩ ?_
  refine EV.eqH (h2 := hC_72) rfl ?_
  refine EV.dup dX1_init_30 rfl ?_
  refine EV.invI (As := []) (st := [.inr (.inr 91), .inr (.inr 79)]) (d1 := d - 1) (sh1 := (pv_sc.take 93)) (h1 := hC_73) (r1 := none) dX1_init_31 md_X2_init ml_X1_27 im_X2_init rfl (ct_X2 (d := d - 1) (sh := (pv_sc.take 92)) (sh2 := (pv_sc.take 93)) (n := 92) (by decide +kernel) (by decide +kernel) (by decide) (by omega) (by decide +kernel)) (by omega) rfl rfl (Nat.le_of_ble_eq_true rfl) ⟨(pv_sc.take 100).drop 93, by decide +kernel⟩ ?_
  refine EV.put dX1_init_34 (by decide +kernel) fl_1_28 rfl ⟨rfl, by decide +kernel, rfl⟩ ?_
  refine EV.eqH (h2 := hC_74) rfl ?_
  refine EV.aload_n dX1_init_37 rfl rfl ?_
  refine EV.bipush dX1_init_38 (by decide) (by decide) ?_
  refine EV.newaC1 (n := 93) (m := 60) (sh2 := (pv_sc.take 94)) (by decide +kernel) rfl (by decide +kernel) dX1_init_40 w_ar_int (by decide) (by decide) (by decide) ⟨(pv_sc.take 100).drop 94, by decide +kernel⟩ ?_
  refine EV.eqH (h2 := hC_75) rfl ?_
  refine EV.putF dX1_init_42 (by decide +kernel) fl_1_32 rfl rfl rfl ⟨rfl, by decide +kernel, rfl⟩ ?_
  refine EV.eqH (h2 := hC_76) rfl ?_
  refine EV.aload_n dX1_init_45 rfl rfl ?_
  refine EV.bipush dX1_init_46 (by decide) (by decide) ?_
  refine EV.newaC1 (n := 94) (m := 60) (sh2 := (pv_sc.take 95)) (by decide +kernel) rfl (by decide +kernel) dX1_init_48 w_ar_int (by decide) (by decide) (by decide) ⟨(pv_sc.take 100).drop 95, by decide +kernel⟩ ?_
  refine EV.eqH (h2 := hC_77) rfl ?_
  refine EV.putF dX1_init_50 (by decide +kernel) fl_1_36 rfl rfl rfl ⟨rfl, by decide +kernel, rfl⟩ ?_
  refine EV.eqH (h2 := hC_78) rfl ?_
  refine EV.aload_n dX1_init_53 rfl rfl ?_
  refine EV.bipush dX1_init_54 (by decide) (by decide) ?_
  refine EV.newaC1 (n := 95) (m := 60) (sh2 := (pv_sc.take 96)) (by decide +kernel) rfl (by decide +kernel) dX1_init_56 w_ar_int (by decide) (by decide) (by decide) ⟨(pv_sc.take 100).drop 96, by decide +kernel⟩ ?_
  refine EV.eqH (h2 := hC_79) rfl ?_
  refine EV.putF dX1_init_58 (by decide +kernel) fl_1_39 rfl rfl rfl ⟨rfl, by decide +kernel, rfl⟩ ?_
  refine EV.eqH (h2 := hC_80) rfl ?_
  refine EV.aload_n dX1_init_61 rfl rfl ?_
  refine EV.bipush dX1_init_62 (by decide) (by decide) ?_
  refine EV.newaC1 (n := 96) (m := 60) (sh2 := (pv_sc.take 97)) (by decide +kernel) rfl (by decide +kernel) dX1_init_64 w_ar_int (by decide) (by decide) (by decide) ⟨(pv_sc.take 100).drop 97, by decide +kernel⟩ ?_
  refine EV.eqH (h2 := hC_81) rfl ?_
  refine EV.putF dX1_init_66 (by decide +kernel) fl_1_42 rfl rfl rfl ⟨rfl, by decide +kernel, rfl⟩ ?_
  refine EV.eqH (h2 := hC_82) rfl ?_
  refine EV.aload_n dX1_init_69 rfl rfl ?_
  refine EV.sipush dX1_init_70 (by decide) (by decide) ?_
  refine EV.newaC1 (n := 97) (m := 200) (sh2 := (pv_sc.take 98)) (by decide +kernel) rfl (by decide +kernel) dX1_init_73 w_ar_int (by decide) (by decide) (by decide) ⟨(pv_sc.take 100).drop 98, by decide +kernel⟩ ?_
  refine EV.eqH (h2 := hC_83) rfl ?_
  refine EV.putF dX1_init_75 (by decide +kernel) fl_1_45 rfl rfl rfl ⟨rfl, by decide +kernel, rfl⟩ ?_
  refine EV.eqH (h2 := hC_84) rfl ?_
  refine EV.aload_n dX1_init_78 rfl rfl ?_
  refine EV.sipush dX1_init_79 (by decide) (by decide) ?_
  refine EV.newaC1 (n := 98) (m := 200) (sh2 := (pv_sc.take 99)) (by decide +kernel) rfl (by decide +kernel) dX1_init_82 w_ar_int (by decide) (by decide) (by decide) ⟨(pv_sc.take 100).drop 99, by decide +kernel⟩ ?_
  refine EV.eqH (h2 := hC_85) rfl ?_
  refine EV.putF dX1_init_84 (by decide +kernel) fl_1_48 rfl rfl rfl ⟨rfl, by decide +kernel, rfl⟩ ?_
  refine EV.eqH (h2 := hC_86) rfl ?_
  refine EV.aload_n dX1_init_87 rfl rfl ?_
  refine EV.sipush dX1_init_88 (by decide) (by decide) ?_
  refine EV.newaC1 (n := 99) (m := 200) (sh2 := (pv_sc.take 100)) (by decide +kernel) rfl (by decide +kernel) dX1_init_91 w_ar_int (by decide) (by decide) (by decide) ⟨(pv_sc.take 100).drop 100, by decide +kernel⟩ ?_
  refine EV.eqH (h2 := hC_87) rfl ?_
  refine EV.putF dX1_init_93 (by decide +kernel) fl_1_51 rfl rfl rfl ⟨rfl, by decide +kernel, rfl⟩ ?_
  refine EV.eqH (h2 := hC_88) rfl ?_
  exact EV.vret dX1_init_96

theorem ct_hC_107 {d : Nat} (hd : 3 ≤ d) : CALL yX8_init cX8_init 2 none d (pv_sc.take 108) hC_95 [.inr (.inr 107)] (pv_sc.take 162) hC_132 none := by
  refine EV.call (own := RX8) (ini := true) rfl rfl (fun _ => rfl) ⟨(pv_sc.take 162).drop 108, by decide +kernel⟩ (Nat.le_of_ble_eq_true rfl) ?_
  refine EV.eqL (L2 := [some (.inr (.inr 107)), none]) rfl ?_
  refine EV.aload_n dX8_init_0 rfl rfl ?_
  refine EV.obj dX8_init_1 ml_X8_3 w_oii w_oic (by omega) (Nat.le_of_ble_eq_true rfl) ?_
  refine EV.aload_n dX8_init_4 rfl rfl ?_
  refine EV.iconst dX8_init_5 (by decide) (by decide) ?_
  refine EV.newaC5 (n := 108) (m := 4) (sh2 := (pv_sc.take 109)) (by decide +kernel) rfl (by decide +kernel) dX8_init_6 cl_X8_9 (by decide) (by decide) (by decide) ⟨(pv_sc.take 162).drop 109, by decide +kernel⟩ ?_
  refine EV.eqH (h2 := hC_96) rfl ?_
  refine EV.putF dX8_init_9 (by decide +kernel) fl_8_11 rfl rfl rfl ⟨rfl, by decide +kernel, rfl⟩ ?_
  refine EV.eqH (h2 := hC_97) rfl ?_
  refine EV.aload_n dX8_init_12 rfl rfl ?_
  refine EV.iconst dX8_init_13 (by decide) (by decide) ?_
  refine EV.newaC6 (n := 109) (m := 4) (sh2 := (pv_sc.take 110)) (by decide +kernel) rfl (by decide +kernel) dX8_init_14 cl_X8_17 (by decide) (by decide) (by decide) ⟨(pv_sc.take 162).drop 110, by decide +kernel⟩ ?_
  refine EV.eqH (h2 := hC_98) rfl ?_
  refine EV.putF dX8_init_17 (by decide +kernel) fl_8_19 rfl rfl rfl ⟨rfl, by decide +kernel, rfl⟩ ?_
  refine EV.eqH (h2 := hC_99) rfl ?_
  refine EV.aload_n dX8_init_20 rfl rfl ?_
  refine EV.newoC (n := 110) (sh2 := (pv_sc.take 111)) (ci := 2) (by decide +kernel) (by decide +kernel) dX8_init_21 (by decide) cl_X8_23 in_X2 ii_X2 (by decide) ⟨(pv_sc.take 162).drop 111, by decide +kernel⟩ ?_
  refine EV.eqH (h2 := hC_100) rfl ?_
  refine EV.dup dX8_init_24 rfl ?_
  refine EV.invI (As := []) (st := [.inr (.inr 110), .inr (.inr 107)]) (d1 := d - 1) (sh1 := (pv_sc.take 112)) (h1 := hC_101) (r1 := none) dX8_init_25 md_X2_init ml_X8_25 im_X2_init rfl (ct_X2 (d := d - 1) (sh := (pv_sc.take 111)) (sh2 := (pv_sc.take 112)) (n := 111) (by decide +kernel) (by decide +kernel) (by decide) (by omega) (by decide +kernel)) (by omega) rfl rfl (Nat.le_of_ble_eq_true rfl) ⟨(pv_sc.take 162).drop 112, by decide +kernel⟩ ?_
  refine EV.putF dX8_init_28 (by decide +kernel) fl_8_26 rfl rfl rfl ⟨rfl, by decide +kernel, rfl⟩ ?_
  refine EV.eqH (h2 := hC_102) rfl ?_
  refine EV.aload_n dX8_init_31 rfl rfl ?_
  refine EV.newoC (n := 112) (sh2 := (pv_sc.take 113)) (ci := 3) (by decide +kernel) (by decide +kernel) dX8_init_32 (by decide) cl_X8_30 in_X3 ii_X3 (by decide) ⟨(pv_sc.take 162).drop 113, by decide +kernel⟩ ?_
  refine EV.eqH (h2 := hC_103) rfl ?_
  refine EV.dup dX8_init_35 rfl ?_
  refine EV.invN (As := []) (st := [.inr (.inr 112), .inr (.inr 107)]) (d1 := d - 1) (sh1 := (pv_sc.take 117)) (h1 := hC_104) (r1 := none) dX8_init_36 md_X3_init mn_X8_32 im_X3_init rfl (ct_X3 (d := d - 1) (sh := (pv_sc.take 113)) (sh2 := (pv_sc.take 117)) (n := 113) (by decide +kernel) (by decide +kernel) (by decide) (by omega) (by decide +kernel)) (by omega) rfl rfl (Nat.le_of_ble_eq_true rfl) ⟨(pv_sc.take 162).drop 117, by decide +kernel⟩ ?_
  refine EV.putF dX8_init_39 (by decide +kernel) fl_8_33 rfl rfl rfl ⟨rfl, by decide +kernel, rfl⟩ ?_
  refine EV.eqH (h2 := hC_105) rfl ?_
  refine EV.aload_n dX8_init_42 rfl rfl ?_
  refine EV.newoC (n := 117) (sh2 := (pv_sc.take 118)) (ci := 7) (by decide +kernel) (by decide +kernel) dX8_init_43 (by decide) cl_X8_37 in_X7 ii_X7 (by decide) ⟨(pv_sc.take 162).drop 118, by decide +kernel⟩ ?_
  refine EV.eqH (h2 := hC_106) rfl ?_
  refine EV.dup dX8_init_46 rfl ?_
  refine EV.invN (As := []) (st := [.inr (.inr 117), .inr (.inr 107)]) (d1 := d - 1) (sh1 := (pv_sc.take 122)) (h1 := hC_107) (r1 := none) dX8_init_47 md_X7_init mn_X8_39 im_X7_init rfl (ct_X7 (d := d - 1) (sh := (pv_sc.take 118)) (sh2 := (pv_sc.take 122)) (n := 118) (by decide +kernel) (by decide +kernel) (by decide) (by omega) (by decide +kernel)) (by omega) rfl rfl (Nat.le_of_ble_eq_true rfl) ⟨(pv_sc.take 162).drop 122, by decide +kernel⟩ ?_
  refine EV.putF dX8_init_50 (by decide +kernel) fl_8_40 rfl rfl rfl ⟨rfl, by decide +kernel, rfl⟩ ?_
  refine EV.eqH (h2 := hC_108) rfl ?_
  refine EV.iconst dX8_init_53 (by decide) (by decide) ?_
  refine EV.istore_n dX8_init_54 rfl (by decide) ?_
  refine EV.eqL (L2 := [some (.inr (.inr 107)), some (.inl (0))]) rfl ?_
  refine EV.iload_n dX8_init_55 rfl rfl ?_
  refine EV.iconst dX8_init_56 (by decide) (by decide) ?_
  refine EV.icmp_ge (tgt := 79) dX8_init_57 (by decide) (fun q => absurd q (by decide)) (fun _ => ?_)
  refine EV.aload_n dX8_init_60 rfl rfl ?_
  refine EV.getV (v := 108) dX8_init_61 (by decide +kernel) fl_8_11 rfl (by decide +kernel) ?_
  refine EV.iload_n dX8_init_64 rfl rfl ?_
  refine EV.newoC (n := 122) (sh2 := (pv_sc.take 123)) (ci := 5) (by decide +kernel) (by decide +kernel) dX8_init_65 (by decide) cl_X8_9 in_X5 ii_X5 (by decide) ⟨(pv_sc.take 162).drop 123, by decide +kernel⟩ ?_
  refine EV.eqH (h2 := hC_109) rfl ?_
  refine EV.dup dX8_init_68 rfl ?_
  refine EV.invN (As := []) (st := [.inr (.inr 122), .inl (0), .inr (.inr 108)]) (d1 := d - 1) (sh1 := (pv_sc.take 128)) (h1 := hC_110) (r1 := none) dX8_init_69 md_X5_init mn_X8_44 im_X5_init rfl (ct_X5 (d := d - 1) (sh := (pv_sc.take 123)) (sh2 := (pv_sc.take 128)) (n := 123) (by decide +kernel) (by decide +kernel) (by decide) (by omega) (by decide +kernel)) (by omega) rfl rfl (Nat.le_of_ble_eq_true rfl) ⟨(pv_sc.take 162).drop 128, by decide +kernel⟩ ?_
  refine EV.aast (a := 5) (ci := 5) (n := 4) dX8_init_72 (by decide +kernel) (by decide) (by decide +kernel) (by decide) (by decide) ?_
  refine EV.eqH (h2 := hC_111) rfl ?_
  refine EV.iinc dX8_init_73 rfl (by decide) ?_
  refine EV.eqL (L2 := [some (.inr (.inr 107)), some (.inl (1))]) (by decide +kernel) ?_
  refine EV.goto (tgt := 55) dX8_init_76 (by decide) ?_
  refine EV.iload_n dX8_init_55 rfl rfl ?_
  refine EV.iconst dX8_init_56 (by decide) (by decide) ?_
  refine EV.icmp_ge (tgt := 79) dX8_init_57 (by decide) (fun q => absurd q (by decide)) (fun _ => ?_)
  refine EV.aload_n dX8_init_60 rfl rfl ?_
  refine EV.getV (v := 108) dX8_init_61 (by decide +kernel) fl_8_11 rfl (by decide +kernel) ?_
  refine EV.iload_n dX8_init_64 rfl rfl ?_
  refine EV.newoC (n := 128) (sh2 := (pv_sc.take 129)) (ci := 5) (by decide +kernel) (by decide +kernel) dX8_init_65 (by decide) cl_X8_9 in_X5 ii_X5 (by decide) ⟨(pv_sc.take 162).drop 129, by decide +kernel⟩ ?_
  refine EV.eqH (h2 := hC_112) rfl ?_
  refine EV.dup dX8_init_68 rfl ?_
  refine EV.invN (As := []) (st := [.inr (.inr 128), .inl (1), .inr (.inr 108)]) (d1 := d - 1) (sh1 := (pv_sc.take 134)) (h1 := hC_113) (r1 := none) dX8_init_69 md_X5_init mn_X8_44 im_X5_init rfl (ct_X5 (d := d - 1) (sh := (pv_sc.take 129)) (sh2 := (pv_sc.take 134)) (n := 129) (by decide +kernel) (by decide +kernel) (by decide) (by omega) (by decide +kernel)) (by omega) rfl rfl (Nat.le_of_ble_eq_true rfl) ⟨(pv_sc.take 162).drop 134, by decide +kernel⟩ ?_
  refine EV.aast (a := 5) (ci := 5) (n := 4) dX8_init_72 (by decide +kernel) (by decide) (by decide +kernel) (by decide) (by decide) ?_
  refine EV.eqH (h2 := hC_114) rfl ?_
  refine EV.iinc dX8_init_73 rfl (by decide) ?_
  refine EV.eqL (L2 := [some (.inr (.inr 107)), some (.inl (2))]) (by decide +kernel) ?_
  refine EV.goto (tgt := 55) dX8_init_76 (by decide) ?_
  refine EV.iload_n dX8_init_55 rfl rfl ?_
  refine EV.iconst dX8_init_56 (by decide) (by decide) ?_
  refine EV.icmp_ge (tgt := 79) dX8_init_57 (by decide) (fun q => absurd q (by decide)) (fun _ => ?_)
  refine EV.aload_n dX8_init_60 rfl rfl ?_
  refine EV.getV (v := 108) dX8_init_61 (by decide +kernel) fl_8_11 rfl (by decide +kernel) ?_
  refine EV.iload_n dX8_init_64 rfl rfl ?_
  refine EV.newoC (n := 134) (sh2 := (pv_sc.take 135)) (ci := 5) (by decide +kernel) (by decide +kernel) dX8_init_65 (by decide) cl_X8_9 in_X5 ii_X5 (by decide) ⟨(pv_sc.take 162).drop 135, by decide +kernel⟩ ?_
  refine EV.eqH (h2 := hC_115) rfl ?_
  refine EV.dup dX8_init_68 rfl ?_
  refine EV.invN (As := []) (st := [.inr (.inr 134), .inl (2), .inr (.inr 108)]) (d1 := d - 1) (sh1 := (pv_sc.take 140)) (h1 := hC_116) (r1 := none) dX8_init_69 md_X5_init mn_X8_44 im_X5_init rfl (ct_X5 (d := d - 1) (sh := (pv_sc.take 135)) (sh2 := (pv_sc.take 140)) (n := 135) (by decide +kernel) (by decide +kernel) (by decide) (by omega) (by decide +kernel)) (by omega) rfl rfl (Nat.le_of_ble_eq_true rfl) ⟨(pv_sc.take 162).drop 140, by decide +kernel⟩ ?_
  refine EV.aast (a := 5) (ci := 5) (n := 4) dX8_init_72 (by decide +kernel) (by decide) (by decide +kernel) (by decide) (by decide) ?_
  refine EV.eqH (h2 := hC_117) rfl ?_
  refine EV.iinc dX8_init_73 rfl (by decide) ?_
  refine EV.eqL (L2 := [some (.inr (.inr 107)), some (.inl (3))]) (by decide +kernel) ?_
  refine EV.goto (tgt := 55) dX8_init_76 (by decide) ?_
  refine EV.iload_n dX8_init_55 rfl rfl ?_
  refine EV.iconst dX8_init_56 (by decide) (by decide) ?_
  refine EV.icmp_ge (tgt := 79) dX8_init_57 (by decide) (fun q => absurd q (by decide)) (fun _ => ?_)
  refine EV.aload_n dX8_init_60 rfl rfl ?_
  refine EV.getV (v := 108) dX8_init_61 (by decide +kernel) fl_8_11 rfl (by decide +kernel) ?_
  refine EV.iload_n dX8_init_64 rfl rfl ?_
  refine EV.newoC (n := 140) (sh2 := (pv_sc.take 141)) (ci := 5) (by decide +kernel) (by decide +kernel) dX8_init_65 (by decide) cl_X8_9 in_X5 ii_X5 (by decide) ⟨(pv_sc.take 162).drop 141, by decide +kernel⟩ ?_
  refine EV.eqH (h2 := hC_118) rfl ?_
  refine EV.dup dX8_init_68 rfl ?_
  refine EV.invN (As := []) (st := [.inr (.inr 140), .inl (3), .inr (.inr 108)]) (d1 := d - 1) (sh1 := (pv_sc.take 146)) (h1 := hC_119) (r1 := none) dX8_init_69 md_X5_init mn_X8_44 im_X5_init rfl (ct_X5 (d := d - 1) (sh := (pv_sc.take 141)) (sh2 := (pv_sc.take 146)) (n := 141) (by decide +kernel) (by decide +kernel) (by decide) (by omega) (by decide +kernel)) (by omega) rfl rfl (Nat.le_of_ble_eq_true rfl) ⟨(pv_sc.take 162).drop 146, by decide +kernel⟩ ?_
  refine EV.aast (a := 5) (ci := 5) (n := 4) dX8_init_72 (by decide +kernel) (by decide) (by decide +kernel) (by decide) (by decide) ?_
  refine EV.eqH (h2 := hC_120) rfl ?_
  refine EV.iinc dX8_init_73 rfl (by decide) ?_
  refine EV.eqL (L2 := [some (.inr (.inr 107)), some (.inl (4))]) (by decide +kernel) ?_
  refine EV.goto (tgt := 55) dX8_init_76 (by decide) ?_
  refine EV.iload_n dX8_init_55 rfl rfl ?_
  refine EV.iconst dX8_init_56 (by decide) (by decide) ?_
  refine EV.icmp_ge (tgt := 79) dX8_init_57 (by decide) (fun _ => ?_) (fun q => absurd (by decide) q)
  refine EV.iconst dX8_init_79 (by decide) (by decide) ?_
  refine EV.istore_n dX8_init_80 rfl (by decide) ?_
  refine EV.eqL (L2 := [some (.inr (.inr 107)), some (.inl (0))]) rfl ?_
  refine EV.iload_n dX8_init_81 rfl rfl ?_
  refine EV.iconst dX8_init_82 (by decide) (by decide) ?_
  refine EV.icmp_ge (tgt := 105) dX8_init_83 (by decide) (fun q => absurd q (by decide)) (fun _ => ?_)
  refine EV.aload_n dX8_init_86 rfl rfl ?_
  refine EV.getV (v := 109) dX8_init_87 (by decide +kernel) fl_8_19 rfl (by decide +kernel) ?_
  refine EV.iload_n dX8_init_90 rfl rfl ?_
  refine EV.newoC (n := 146) (sh2 := (pv_sc.take 147)) (ci := 0) (by decide +kernel) (by decide +kernel) dX8_init_91 (by decide) cl_X8_17 in_X0 ii_X0 (by decide) ⟨(pv_sc.take 162).drop 147, by decide +kernel⟩ ?_
  refine EV.eqH (h2 := hC_121) rfl ?_
  refine EV.dup dX8_init_94 rfl ?_
  refine EV.invN (As := []) (st := [.inr (.inr 146), .inl (0), .inr (.inr 109)]) (d1 := d - 1) (sh1 := (pv_sc.take 150)) (h1 := hC_122) (r1 := none) dX8_init_95 md_X0_init mn_X8_45 im_X0_init rfl (ct_X0 (d := d - 1) (sh := (pv_sc.take 147)) (sh2 := (pv_sc.take 150)) (n := 147) (by decide +kernel) (by decide +kernel) (by decide) (by omega) (by decide +kernel)) (by omega) rfl rfl (Nat.le_of_ble_eq_true rfl) ⟨(pv_sc.take 162).drop 150, by decide +kernel⟩ ?_
  refine EV.aast (a := 6) (ci := 0) (n := 4) dX8_init_98 (by decide +kernel) (by decide) (by decide +kernel) (by decide) (by decide) ?_
  refine EV.eqH (h2 := hC_123) rfl ?_
  refine EV.iinc dX8_init_99 rfl (by decide) ?_
  refine EV.eqL (L2 := [some (.inr (.inr 107)), some (.inl (1))]) (by decide +kernel) ?_
  refine EV.goto (tgt := 81) dX8_init_102 (by decide) ?_
  refine EV.iload_n dX8_init_81 rfl rfl ?_
  refine EV.iconst dX8_init_82 (by decide) (by decide) ?_
  refine EV.icmp_ge (tgt := 105) dX8_init_83 (by decide) (fun q => absurd q (by decide)) (fun _ => ?_)
  refine EV.aload_n dX8_init_86 rfl rfl ?_
  refine EV.getV (v := 109) dX8_init_87 (by decide +kernel) fl_8_19 rfl (by decide +kernel) ?_
  refine EV.iload_n dX8_init_90 rfl rfl ?_
  refine EV.newoC (n := 150) (sh2 := (pv_sc.take 151)) (ci := 0) (by decide +kernel) (by decide +kernel) dX8_init_91 (by decide) cl_X8_17 in_X0 ii_X0 (by decide) ⟨(pv_sc.take 162).drop 151, by decide +kernel⟩ ?_
  refine EV.eqH (h2 := hC_124) rfl ?_
  refine EV.dup dX8_init_94 rfl ?_
  refine EV.invN (As := []) (st := [.inr (.inr 150), .inl (1), .inr (.inr 109)]) (d1 := d - 1) (sh1 := (pv_sc.take 154)) (h1 := hC_125) (r1 := none) dX8_init_95 md_X0_init mn_X8_45 im_X0_init rfl (ct_X0 (d := d - 1) (sh := (pv_sc.take 151)) (sh2 := (pv_sc.take 154)) (n := 151) (by decide +kernel) (by decide +kernel) (by decide) (by omega) (by decide +kernel)) (by omega) rfl rfl (Nat.le_of_ble_eq_true rfl) ⟨(pv_sc.take 162).drop 154, by decide +kernel⟩ ?_
  refine EV.aast (a := 6) (ci := 0) (n := 4) dX8_init_98 (by decide +kernel) (by decide) (by decide +kernel) (by decide) (by decide) ?_
  refine EV.eqH (h2 := hC_126) rfl ?_
  refine EV.iinc dX8_init_99 rfl (by decide) ?_
  refine EV.eqL (L2 := [some (.inr (.inr 107)), some (.inl (2))]) (by decide +kernel) ?_
  refine EV.goto (tgt := 81) dX8_init_102 (by decide) ?_
  refine EV.iload_n dX8_init_81 rfl rfl ?_
  refine EV.iconst dX8_init_82 (by decide) (by decide) ?_
  refine EV.icmp_ge (tgt := 105) dX8_init_83 (by decide) (fun q => absurd q (by decide)) (fun _ => ?_)
  refine EV.aload_n dX8_init_86 rfl rfl ?_
  refine EV.getV (v := 109) dX8_init_87 (by decide +kernel) fl_8_19 rfl (by decide +kernel) ?_
  refine EV.iload_n dX8_init_90 rfl rfl ?_
  refine EV.newoC (n := 154) (sh2 := (pv_sc.take 155)) (ci := 0) (by decide +kernel) (by decide +kernel) dX8_init_91 (by decide) cl_X8_17 in_X0 ii_X0 (by decide) ⟨(pv_sc.take 162).drop 155, by decide +kernel⟩ ?_
  refine EV.eqH (h2 := hC_127) rfl ?_
  refine EV.dup dX8_init_94 rfl ?_
  refine EV.invN (As := []) (st := [.inr (.inr 154), .inl (2), .inr (.inr 109)]) (d1 := d - 1) (sh1 := (pv_sc.take 158)) (h1 := hC_128) (r1 := none) dX8_init_95 md_X0_init mn_X8_45 im_X0_init rfl (ct_X0 (d := d - 1) (sh := (pv_sc.take 155)) (sh2 := (pv_sc.take 158)) (n := 155) (by decide +kernel) (by decide +kernel) (by decide) (by omega) (by decide +kernel)) (by omega) rfl rfl (Nat.le_of_ble_eq_true rfl) ⟨(pv_sc.take 162).drop 158, by decide +kernel⟩ ?_
  refine EV.aast (a := 6) (ci := 0) (n := 4) dX8_init_98 (by decide +kernel) (by decide) (by decide +kernel) (by decide) (by decide) ?_
  refine EV.eqH (h2 := hC_129) rfl ?_
  refine EV.iinc dX8_init_99 rfl (by decide) ?_
  refine EV.eqL (L2 := [some (.inr (.inr 107)), some (.inl (3))]) (by decide +kernel) ?_
  refine EV.goto (tgt := 81) dX8_init_102 (by decide) ?_
  refine EV.iload_n dX8_init_81 rfl rfl ?_
  refine EV.iconst dX8_init_82 (by decide) (by decide) ?_
  refine EV.icmp_ge (tgt := 105) dX8_init_83 (by decide) (fun q => absurd q (by decide)) (fun _ => ?_)
  refine EV.aload_n dX8_init_86 rfl rfl ?_
  refine EV.getV (v := 109) dX8_init_87 (by decide +kernel) fl_8_19 rfl (by decide +kernel) ?_
  refine EV.iload_n dX8_init_90 rfl rfl ?_
  refine EV.newoC (n := 158) (sh2 := (pv_sc.take 159)) (ci := 0) (by decide +kernel) (by decide +kernel) dX8_init_91 (by decide) cl_X8_17 in_X0 ii_X0 (by decide) ⟨(pv_sc.take 162).drop 159, by decide +kernel⟩ ?_
  refine EV.eqH (h2 := hC_130) rfl ?_
  refine EV.dup dX8_init_94 rfl ?_
  refine EV.invN (As := []) (st := [.inr (.inr 158), .inl (3), .inr (.inr 109)]) (d1 := d - 1) (sh1 := (pv_sc.take 162)) (h1 := hC_131) (r1 := none) dX8_init_95 md_X0_init mn_X8_45 im_X0_init rfl (ct_X0 (d := d - 1) (sh := (pv_sc.take 159)) (sh2 := (pv_sc.take 162)) (n := 159) (by decide +kernel) (by decide +kernel) (by decide) (by omega) (by decide +kernel)) (by omega) rfl rfl (Nat.le_of_ble_eq_true rfl) ⟨(pv_sc.take 162).drop 162, by decide +kernel⟩ ?_
  refine EV.aast (a := 6) (ci := 0) (n := 4) dX8_init_98 (by decide +kernel) (by decide) (by decide +kernel) (by decide) (by decide) ?_
  refine EV.eqH (h2 := hC_132) rfl ?_
  refine EV.iinc dX8_init_99 rfl (by decide) ?_
  refine EV.eqL (L2 := [some (.inr (.inr 107)), some (.inl (4))]) (by decide +kernel) ?_
  refine EV.goto (tgt := 81) dX8_init_102 (by decide) ?_
  refine EV.iload_n dX8_init_81 rfl rfl ?_
  refine EV.iconst dX8_init_82 (by decide) (by decide) ?_
  refine EV.icmp_ge (tgt := 105) dX8_init_83 (by decide) (fun _ => ?_) (fun q => absurd (by decide) q)
  exact EV.vret dX8_init_105

theorem ct_hC_162 {d : Nat} (hd : 3 ≤ d) : CALL yX8_init cX8_init 2 none d (pv_sc.take 163) hC_134 [.inr (.inr 162)] (pv_sc.take 217) hC_171 none := by
  refine EV.call (own := RX8) (ini := true) rfl rfl (fun _ => rfl) ⟨(pv_sc.take 217).drop 163, by decide +kernel⟩ (Nat.le_of_ble_eq_true rfl) ?_
  refine EV.eqL (L2 := [some (.inr (.inr 162)), none]) rfl ?_
  refine EV.aload_n dX8_init_0 rfl rfl ?_
  refine EV.obj dX8_init_1 ml_X8_3 w_oii w_oic (by omega) (Nat.le_of_ble_eq_true rfl) ?_
  refine EV.aload_n dX8_init_4 rfl rfl ?_
  refine EV.iconst dX8_init_5 (by decide) (by decide) ?_
  refine EV.newaC5 (n := 163) (m := 4) (sh2 := (pv_sc.take 164)) (by decide +kernel) rfl (by decide +kernel) dX8_init_6 cl_X8_9 (by decide) (by decide) (by decide) ⟨(pv_sc.take 217).drop 164, by decide +kernel⟩ ?_
  refine EV.eqH (h2 := hC_135) rfl ?_
  refine EV.putF dX8_init_9 (by decide +kernel) fl_8_11 rfl rfl rfl ⟨rfl, by decide +kernel, rfl⟩ ?_
  refine EV.eqH (h2 := hC_136) rfl ?_
  refine EV.aload_n dX8_init_12 rfl rfl ?_
  refine EV.iconst dX8_init_13 (by decide) (by decide) ?_
  refine EV.newaC6 (n := 164) (m := 4) (sh2 := (pv_sc.take 165)) (by decide +kernel) rfl (by decide +kernel) dX8_init_14 cl_X8_17 (by decide) (by decide) (by decide) ⟨(pv_sc.take 217).drop 165, by decide +kernel⟩ ?_
  refine EV.eqH (h2 := hC_137) rfl ?_
  refine EV.putF dX8_init_17 (by decide +kernel) fl_8_19 rfl rfl rfl ⟨rfl, by decide +kernel, rfl⟩ ?_
  refine EV.eqH (h2 := hC_138) rfl ?_
  refine EV.aload_n dX8_init_20 rfl rfl ?_
  refine EV.newoC (n := 165) (sh2 := (pv_sc.take 166)) (ci := 2) (by decide +kernel) (by decide +kernel) dX8_init_21 (by decide) cl_X8_23 in_X2 ii_X2 (by decide) ⟨(pv_sc.take 217).drop 166, by decide +kernel⟩ ?_
  refine EV.eqH (h2 := hC_139) rfl ?_
  refine EV.dup dX8_init_24 rfl ?_
  refine EV.invI (As := []) (st := [.inr (.inr 165), .inr (.inr 162)]) (d1 := d - 1) (sh1 := (pv_sc.take 167)) (h1 := hC_140) (r1 := none) dX8_init_25 md_X2_init ml_X8_25 im_X2_init rfl (ct_X2 (d := d - 1) (sh := (pv_sc.take 166)) (sh2 := (pv_sc.take 167)) (n := 166) (by decide +kernel) (by decide +kernel) (by decide) (by omega) (by decide +kernel)) (by omega) rfl rfl (Nat.le_of_ble_eq_true rfl) ⟨(pv_sc.take 217).drop 167, by decide +kernel⟩ ?_
  refine EV.putF dX8_init_28 (by decide +kernel) fl_8_26 rfl rfl rfl ⟨rfl, by decide +kernel, rfl⟩ ?_
  refine EV.eqH (h2 := hC_141) rfl ?_
  refine EV.aload_n dX8_init_31 rfl rfl ?_
  refine EV.newoC (n := 167) (sh2 := (pv_sc.take 168)) (ci := 3) (by decide +kernel) (by decide +kernel) dX8_init_32 (by decide) cl_X8_30 in_X3 ii_X3 (by decide) ⟨(pv_sc.take 217).drop 168, by decide +kernel⟩ ?_
  refine EV.eqH (h2 := hC_142) rfl ?_
  refine EV.dup dX8_init_35 rfl ?_
  refine EV.invN (As := []) (st := [.inr (.inr 167), .inr (.inr 162)]) (d1 := d - 1) (sh1 := (pv_sc.take 172)) (h1 := hC_143) (r1 := none) dX8_init_36 md_X3_init mn_X8_32 im_X3_init rfl (ct_X3 (d := d - 1) (sh := (pv_sc.take 168)) (sh2 := (pv_sc.take 172)) (n := 168) (by decide +kernel) (by decide +kernel) (by decide) (by omega) (by decide +kernel)) (by omega) rfl rfl (Nat.le_of_ble_eq_true rfl) ⟨(pv_sc.take 217).drop 172, by decide +kernel⟩ ?_
  refine EV.putF dX8_init_39 (by decide +kernel) fl_8_33 rfl rfl rfl ⟨rfl, by decide +kernel, rfl⟩ ?_
  refine EV.eqH (h2 := hC_144) rfl ?_
  refine EV.aload_n dX8_init_42 rfl rfl ?_
  refine EV.newoC (n := 172) (sh2 := (pv_sc.take 173)) (ci := 7) (by decide +kernel) (by decide +kernel) dX8_init_43 (by decide) cl_X8_37 in_X7 ii_X7 (by decide) ⟨(pv_sc.take 217).drop 173, by decide +kernel⟩ ?_
  refine EV.eqH (h2 := hC_145) rfl ?_
  refine EV.dup dX8_init_46 rfl ?_
  refine EV.invN (As := []) (st := [.inr (.inr 172), .inr (.inr 162)]) (d1 := d - 1) (sh1 := (pv_sc.take 177)) (h1 := hC_146) (r1 := none) dX8_init_47 md_X7_init mn_X8_39 im_X7_init rfl (ct_X7 (d := d - 1) (sh := (pv_sc.take 173)) (sh2 := (pv_sc.take 177)) (n := 173) (by decide +kernel) (by decide +kernel) (by decide) (by omega) (by decide +kernel)) (by omega) rfl rfl (Nat.le_of_ble_eq_true rfl) ⟨(pv_sc.take 217).drop 177, by decide +kernel⟩ ?_
  refine EV.putF dX8_init_50 (by decide +kernel) fl_8_40 rfl rfl rfl ⟨rfl, by decide +kernel, rfl⟩ ?_
  refine EV.eqH (h2 := hC_147) rfl ?_
  refine EV.iconst dX8_init_53 (by decide) (by decide) ?_
  refine EV.istore_n dX8_init_54 rfl (by decide) ?_
  refine EV.eqL (L2 := [some (.inr (.inr 162)), some (.inl (0))]) rfl ?_
  refine EV.iload_n dX8_init_55 rfl rfl ?_
  refine EV.iconst dX8_init_56 (by decide) (by decide) ?_
  refine EV.icmp_ge (tgt := 79) dX8_init_57 (by decide) (fun q => absurd q (by decide)) (fun _ => ?_)
  refine EV.aload_n dX8_init_60 rfl rfl ?_
  refine EV.getV (v := 163) dX8_init_61 (by decide +kernel) fl_8_11 rfl (by decide +kernel) ?_
  refine EV.iload_n dX8_init_64 rfl rfl ?_
  refine EV.newoC (n := 177) (sh2 := (pv_sc.take 178)) (ci := 5) (by decide +kernel) (by decide +kernel) dX8_init_65 (by decide) cl_X8_9 in_X5 ii_X5 (by decide) ⟨(pv_sc.take 217).drop 178, by decide +kernel⟩ ?_
  refine EV.eqH (h2 := hC_148) rfl ?_
  refine EV.dup dX8_init_68 rfl ?_
  refine EV.invN (As := []) (st := [.inr (.inr 177), .inl (0), .inr (.inr 163)]) (d1 := d - 1) (sh1 := (pv_sc.take 183)) (h1 := hC_149) (r1 := none) dX8_init_69 md_X5_init mn_X8_44 im_X5_init rfl (ct_X5 (d := d - 1) (sh := (pv_sc.take 178)) (sh2 := (pv_sc.take 183)) (n := 178) (by decide +kernel) (by decide +kernel) (by decide) (by omega) (by decide +kernel)) (by omega) rfl rfl (Nat.le_of_ble_eq_true rfl) ⟨(pv_sc.take 217).drop 183, by decide +kernel⟩ ?_
  refine EV.aast (a := 5) (ci := 5) (n := 4) dX8_init_72 (by decide +kernel) (by decide) (by decide +kernel) (by decide) (by decide) ?_
  refine EV.eqH (h2 := hC_150) rfl ?_
  refine EV.iinc dX8_init_73 rfl (by decide) ?_
  refine EV.eqL (L2 := [some (.inr (.inr 162)), some (.inl (1))]) (by decide +kernel) ?_
  refine EV.goto (tgt := 55) dX8_init_76 (by decide) ?_
  refine EV.iload_n dX8_init_55 rfl rfl ?_
  refine EV.iconst dX8_init_56 (by decide) (by decide) ?_
  refine EV.icmp_ge (tgt := 79) dX8_init_57 (by decide) (fun q => absurd q (by decide)) (fun _ => ?_)
  refine EV.aload_n dX8_init_60 rfl rfl ?_
  refine EV.getV (v := 163) dX8_init_61 (by decide +kernel) fl_8_11 rfl (by decide +kernel) ?_
  refine EV.iload_n dX8_init_64 rfl rfl ?_
  refine EV.newoC (n := 183) (sh2 := (pv_sc.take 184)) (ci := 5) (by decide +kernel) (by decide +kernel) dX8_init_65 (by decide) cl_X8_9 in_X5 ii_X5 (by decide) ⟨(pv_sc.take 217).drop 184, by decide +kernel⟩ ?_
  refine EV.eqH (h2 := hC_151) rfl ?_
  refine EV.dup dX8_init_68 rfl ?_
  refine EV.invN (As := []) (st := [.inr (.inr 183), .inl (1), .inr (.inr 163)]) (d1 := d - 1) (sh1 := (pv_sc.take 189)) (h1 := hC_152) (r1 := none) dX8_init_69 md_X5_init mn_X8_44 im_X5_init rfl (ct_X5 (d := d - 1) (sh := (pv_sc.take 184)) (sh2 := (pv_sc.take 189)) (n := 184) (by decide +kernel) (by decide +kernel) (by decide) (by omega) (by decide +kernel)) (by omega) rfl rfl (Nat.le_of_ble_eq_true rfl) ⟨(pv_sc.take 217).drop 189, by decide +kernel⟩ ?_
  refine EV.aast (a := 5) (ci := 5) (n := 4) dX8_init_72 (by decide +kernel) (by decide) (by decide +kernel) (by decide) (by decide) ?_
  refine EV.eqH (h2 := hC_153) rfl ?_
  refine EV.iinc dX8_init_73 rfl (by decide) ?_
  refine EV.eqL (L2 := [some (.inr (.inr 162)), some (.inl (2))]) (by decide +kernel) ?_
  refine EV.goto (tgt := 55) dX8_init_76 (by decide) ?_
  refine EV.iload_n dX8_init_55 rfl rfl ?_
  refine EV.iconst dX8_init_56 (by decide) (by decide) ?_
  refine EV.icmp_ge (tgt := 79) dX8_init_57 (by decide) (fun q => absurd q (by decide)) (fun _ => ?_)
  refine EV.aload_n dX8_init_60 rfl rfl ?_
  refine EV.getV (v := 163) dX8_init_61 (by decide +kernel) fl_8_11 rfl (by decide +kernel) ?_
  refine EV.iload_n dX8_init_64 rfl rfl ?_
  refine EV.newoC (n := 189) (sh2 := (pv_sc.take 190)) (ci := 5) (by decide +kernel) (by decide +kernel) dX8_init_65 (by decide) cl_X8_9 in_X5 ii_X5 (by decide) ⟨(pv_sc.take 217).drop 190, by decide +kernel⟩ ?_
  refine EV.eqH (h2 := hC_154) rfl ?_
  refine EV.dup dX8_init_68 rfl ?_
  refine EV.invN (As := []) (st := [.inr (.inr 189), .inl (2), .inr (.inr 163)]) (d1 := d - 1) (sh1 := (pv_sc.take 195)) (h1 := hC_155) (r1 := none) dX8_init_69 md_X5_init mn_X8_44 im_X5_init rfl (ct_X5 (d := d - 1) (sh := (pv_sc.take 190)) (sh2 := (pv_sc.take 195)) (n := 190) (by decide +kernel) (by decide +kernel) (by decide) (by omega) (by decide +kernel)) (by omega) rfl rfl (Nat.le_of_ble_eq_true rfl) ⟨(pv_sc.take 217).drop 195, by decide +kernel⟩ ?_
  refine EV.aast (a := 5) (ci := 5) (n := 4) dX8_init_72 (by decide +kernel) (by decide) (by decide +kernel) (by decide) (by decide) ?_
  refine EV.eqH (h2 := hC_156) rfl ?_
  refine EV.iinc dX8_init_73 rfl (by decide) ?_
  refine EV.eqL (L2 := [some (.inr (.inr 162)), some (.inl (3))]) (by decide +kernel) ?_
  refine EV.goto (tgt := 55) dX8_init_76 (by decide) ?_
  refine EV.iload_n dX8_init_55 rfl rfl ?_
  refine EV.iconst dX8_init_56 (by decide) (by decide) ?_
  refine EV.icmp_ge (tgt := 79) dX8_init_57 (by decide) (fun q => absurd q (by decide)) (fun _ => ?_)
  refine EV.aload_n dX8_init_60 rfl rfl ?_
  refine EV.getV (v := 163) dX8_init_61 (by decide +kernel) fl_8_11 rfl (by decide +kernel) ?_
  refine EV.iload_n dX8_init_64 rfl rfl ?_
  refine EV.newoC (n := 195) (sh2 := (pv_sc.take 196)) (ci := 5) (by decide +kernel) (by decide +kernel) dX8_init_65 (by decide) cl_X8_9 in_X5 ii_X5 (by decide) ⟨(pv_sc.take 217).drop 196, by decide +kernel⟩ ?_
  refine EV.eqH (h2 := hC_157) rfl ?_
  refine EV.dup dX8_init_68 rfl ?_
  refine EV.invN (As := []) (st := [.inr (.inr 195), .inl (3), .inr (.inr 163)]) (d1 := d - 1) (sh1 := (pv_sc.take 201)) (h1 := hC_158) (r1 := none) dX8_init_69 md_X5_init mn_X8_44 im_X5_init rfl (ct_X5 (d := d - 1) (sh := (pv_sc.take 196)) (sh2 := (pv_sc.take 201)) (n := 196) (by decide +kernel) (by decide +kernel) (by decide) (by omega) (by decide +kernel)) (by omega) rfl rfl (Nat.le_of_ble_eq_true rfl) ⟨(pv_sc.take 217).drop 201, by decide +kernel⟩ ?_
  refine EV.aast (a := 5) (ci := 5) (n := 4) dX8_init_72 (by decide +kernel) (by decide) (by decide +kernel) (by decide) (by decide) ?_
  refine EV.eqH (h2 := hC_159) rfl ?_
  refine EV.iinc dX8_init_73 rfl (by decide) ?_
  refine EV.eqL (L2 := [some (.inr (.inr 162)), some (.inl (4))]) (by decide +kernel) ?_
  refine EV.goto (tgt := 55) dX8_init_76 (by decide) ?_
  refine EV.iload_n dX8_init_55 rfl rfl ?_
  refine EV.iconst dX8_init_56 (by decide) (by decide) ?_
  refine EV.icmp_ge (tgt := 79) dX8_init_57 (by decide) (fun _ => ?_) (fun q => absurd (by decide) q)
  refine EV.iconst dX8_init_79 (by decide) (by decide) ?_
  refine EV.istore_n dX8_init_80 rfl (by decide) ?_
  refine EV.eqL (L2 := [some (.inr (.inr 162)), some (.inl (0))]) rfl ?_
  refine EV.iload_n dX8_init_81 rfl rfl ?_
  refine EV.iconst dX8_init_82 (by decide) (by decide) ?_
  refine EV.icmp_ge (tgt := 105) dX8_init_83 (by decide) (fun q => absurd q (by decide)) (fun _ => ?_)
  refine EV.aload_n dX8_init_86 rfl rfl ?_
  refine EV.getV (v := 164) dX8_init_87 (by decide +kernel) fl_8_19 rfl (by decide +kernel) ?_
  refine EV.iload_n dX8_init_90 rfl rfl ?_
  refine EV.newoC (n := 201) (sh2 := (pv_sc.take 202)) (ci := 0) (by decide +kernel) (by decide +kernel) dX8_init_91 (by decide) cl_X8_17 in_X0 ii_X0 (by decide) ⟨(pv_sc.take 217).drop 202, by decide +kernel⟩ ?_
  refine EV.eqH (h2 := hC_160) rfl ?_
  refine EV.dup dX8_init_94 rfl ?_
  refine EV.invN (As := []) (st := [.inr (.inr 201), .inl (0), .inr (.inr 164)]) (d1 := d - 1) (sh1 := (pv_sc.take 205)) (h1 := hC_161) (r1 := none) dX8_init_95 md_X0_init mn_X8_45 im_X0_init rfl (ct_X0 (d := d - 1) (sh := (pv_sc.take 202)) (sh2 := (pv_sc.take 205)) (n := 202) (by decide +kernel) (by decide +kernel) (by decide) (by omega) (by decide +kernel)) (by omega) rfl rfl (Nat.le_of_ble_eq_true rfl) ⟨(pv_sc.take 217).drop 205, by decide +kernel⟩ ?_
  refine EV.aast (a := 6) (ci := 0) (n := 4) dX8_init_98 (by decide +kernel) (by decide) (by decide +kernel) (by decide) (by decide) ?_
  refine EV.eqH (h2 := hC_162) rfl ?_
  refine EV.iinc dX8_init_99 rfl (by decide) ?_
  refine EV.eqL (L2 := [some (.inr (.inr 162)), some (.inl (1))]) (by decide +kernel) ?_
  refine EV.goto (tgt := 81) dX8_init_102 (by decide) ?_
  refine EV.iload_n dX8_init_81 rfl rfl ?_
  refine EV.iconst dX8_init_82 (by decide) (by decide) ?_
  refine EV.icmp_ge (tgt := 105) dX8_init_83 (by decide) (fun q => absurd q (by decide)) (fun _ => ?_)
  refine EV.aload_n dX8_init_86 rfl rfl ?_
  refine EV.getV (v := 164) dX8_init_87 (by decide +kernel) fl_8_19 rfl (by decide +kernel) ?_
  refine EV.iload_n dX8_init_90 rfl rfl ?_
  refine EV.newoC (n := 205) (sh2 := (pv_sc.take 206)) (ci := 0) (by decide +kernel) (by decide +kernel) dX8_init_91 (by decide) cl_X8_17 in_X0 ii_X0 (by decide) ⟨(pv_sc.take 217).drop 206, by decide +kernel⟩ ?_
  refine EV.eqH (h2 := hC_163) rfl ?_
  refine EV.dup dX8_init_94 rfl ?_
  refine EV.invN (As := []) (st := [.inr (.inr 205), .inl (1), .inr (.inr 164)]) (d1 := d - 1) (sh1 := (pv_sc.take 209)) (h1 := hC_164) (r1 := none) dX8_init_95 md_X0_init mn_X8_45 im_X0_init rfl (ct_X0 (d := d - 1) (sh := (pv_sc.take 206)) (sh2 := (pv_sc.take 209)) (n := 206) (by decide +kernel) (by decide +kernel) (by decide) (by omega) (by decide +kernel)) (by omega) rfl rfl (Nat.le_of_ble_eq_true rfl) ⟨(pv_sc.take 217).drop 209, by decide +kernel⟩ ?_
  refine EV.aast (a := 6) (ci := 0) (n := 4) dX8_init_98 (by decide +kernel) (by decide) (by decide +kernel) (by decide) (by decide) ?_
  refine EV.eqH (h2 := hC_165) rfl ?_
  refine EV.iinc dX8_init_99 rfl (by decide) ?_
  refine EV.eqL (L2 := [some (.inr (.inr 162)), some (.inl (2))]) (by decide +kernel) ?_
  refine EV.goto (tgt := 81) dX8_init_102 (by decide) ?_
  refine EV.iload_n dX8_init_81 rfl rfl ?_
  refine EV.iconst dX8_init_82 (by decide) (by decide) ?_
  refine EV.icmp_ge (tgt := 105) dX8_init_83 (by decide) (fun q => absurd q (by decide)) (fun _ => ?_)
  refine EV.aload_n dX8_init_86 rfl rfl ?_
  refine EV.getV (v := 164) dX8_init_87 (by decide +kernel) fl_8_19 rfl (by decide +kernel) ?_
  refine EV.iload_n dX8_init_90 rfl rfl ?_
  refine EV.newoC (n := 209) (sh2 := (pv_sc.take 210)) (ci := 0) (by decide +kernel) (by decide +kernel) dX8_init_91 (by decide) cl_X8_17 in_X0 ii_X0 (by decide) ⟨(pv_sc.take 217).drop 210, by decide +kernel⟩ ?_
  refine EV.eqH (h2 := hC_166) rfl ?_
  refine EV.dup dX8_init_94 rfl ?_
  refine EV.invN (As := []) (st := [.inr (.inr 209), .inl (2), .inr (.inr 164)]) (d1 := d - 1) (sh1 := (pv_sc.take 213)) (h1 := hC_167) (r1 := none) dX8_init_95 md_X0_init mn_X8_45 im_X0_init rfl (ct_X0 (d := d - 1) (sh := (pv_sc.take 210)) (sh2 := (pv_sc.take 213)) (n := 210) (by decide +kernel) (by decide +kernel) (by decide) (by omega) (by decide +kernel)) (by omega) rfl rfl (Nat.le_of_ble_eq_true rfl) ⟨(pv_sc.take 217).drop 213, by decide +kernel⟩ ?_
  refine EV.aast (a := 6) (ci := 0) (n := 4) dX8_init_98 (by decide +kernel) (by decide) (by decide +kernel) (by decide) (by decide) ?_
  refine EV.eqH (h2 := hC_168) rfl ?_
  refine EV.iinc dX8_init_99 rfl (by decide) ?_
  refine EV.eqL (L2 := [some (.inr (.inr 162)), some (.inl (3))]) (by decide +kernel) ?_
  refine EV.goto (tgt := 81) dX8_init_102 (by decide) ?_
  refine EV.iload_n dX8_init_81 rfl rfl ?_
  refine EV.iconst dX8_init_82 (by decide) (by decide) ?_
  refine EV.icmp_ge (tgt := 105) dX8_init_83 (by decide) (fun q => absurd q (by decide)) (fun _ => ?_)
  refine EV.aload_n dX8_init_86 rfl rfl ?_
  refine EV.getV (v := 164) dX8_init_87 (by decide +kernel) fl_8_19 rfl (by decide +kernel) ?_
  refine EV.iload_n dX8_init_90 rfl rfl ?_
  refine EV.newoC (n := 213) (sh2 := (pv_sc.take 214)) (ci := 0) (by decide +kernel) (by decide +kernel) dX8_init_91 (by decide) cl_X8_17 in_X0 ii_X0 (by decide) ⟨(pv_sc.take 217).drop 214, by decide +kernel⟩ ?_
  refine EV.eqH (h2 := hC_169) rfl ?_
  refine EV.dup dX8_init_94 rfl ?_
  refine EV.invN (As := []) (st := [.inr (.inr 213), .inl (3), .inr (.inr 164)]) (d1 := d - 1) (sh1 := (pv_sc.take 217)) (h1 := hC_170) (r1 := none) dX8_init_95 md_X0_init mn_X8_45 im_X0_init rfl (ct_X0 (d := d - 1) (sh := (pv_sc.take 214)) (sh2 := (pv_sc.take 217)) (n := 214) (by decide +kernel) (by decide +kernel) (by decide) (by omega) (by decide +kernel)) (by omega) rfl rfl (Nat.le_of_ble_eq_true rfl) ⟨(pv_sc.take 217).drop 217, by decide +kernel⟩ ?_
  refine EV.aast (a := 6) (ci := 0) (n := 4) dX8_init_98 (by decide +kernel) (by decide) (by decide +kernel) (by decide) (by decide) ?_
  refine EV.eqH (h2 := hC_171) rfl ?_
  refine EV.iinc dX8_init_99 rfl (by decide) ?_
  refine EV.eqL (L2 := [some (.inr (.inr 162)), some (.inl (4))]) (by decide +kernel) ?_
  refine EV.goto (tgt := 81) dX8_init_102 (by decide) ?_
  refine EV.iload_n dX8_init_81 rfl rfl ?_
  refine EV.iconst dX8_init_82 (by decide) (by decide) ?_
  refine EV.icmp_ge (tgt := 105) dX8_init_83 (by decide) (fun _ => ?_) (fun q => absurd (by decide) q)
  exact EV.vret dX8_init_105

theorem ct_hC_0 {d : Nat} (hd : 6 ≤ d) : CALL yX9_init cX9_init 2 none d (pv_sc.take 1) hC_0 [.inr (.inr 0)] (pv_sc.take 225) hC_184 none := by
  refine EV.call (own := RX9) (ini := true) rfl rfl (fun _ => rfl) ⟨(pv_sc.take 225).drop 1, by decide +kernel⟩ (Nat.le_of_ble_eq_true rfl) ?_
  refine EV.eqL (L2 := [some (.inr (.inr 0)), none]) rfl ?_
  refine EV.aload_n dX9_init_0 rfl rfl ?_
  refine EV.obj dX9_init_1 ml_X9_1 w_oii w_oic (by omega) (Nat.le_of_ble_eq_true rfl) ?_
  refine EV.aload_n dX9_init_4 rfl rfl ?_
  refine EV.newoC (n := 1) (sh2 := (pv_sc.take 2)) (ci := 4) (by decide +kernel) (by decide +kernel) dX9_init_5 (by decide) cl_X9_7 in_X4 ii_X4 (by decide) ⟨(pv_sc.take 225).drop 2, by decide +kernel⟩ ?_
  refine EV.eqH (h2 := hC_1) rfl ?_
  refine EV.dup dX9_init_8 rfl ?_
  refine EV.invN (As := []) (st := [.inr (.inr 1), .inr (.inr 0)]) (d1 := d - 1) (sh1 := (pv_sc.take 21)) (h1 := hC_18) (r1 := none) dX9_init_9 md_X4_init mn_X9_9 im_X4_init rfl (ct_hC_1 (by omega)) (by omega) rfl rfl (Nat.le_of_ble_eq_true rfl) ⟨(pv_sc.take 225).drop 21, by decide +kernel⟩ ?_
  refine EV.putF dX9_init_12 (by decide +kernel) fl_9_10 rfl rfl rfl ⟨rfl, by decide +kernel, rfl⟩ ?_
  refine EV.eqH (h2 := hC_19) rfl ?_
  refine EV.aload_n dX9_init_15 rfl rfl ?_
  refine EV.newoC (n := 21) (sh2 := (pv_sc.take 22)) (ci := 8) (by decide +kernel) (by decide +kernel) dX9_init_16 (by decide) cl_X9_16 in_X8 ii_X8 (by decide) ⟨(pv_sc.take 225).drop 22, by decide +kernel⟩ ?_
  refine EV.eqH (h2 := hC_20) rfl ?_
  refine EV.dup dX9_init_19 rfl ?_
  refine EV.invI (As := []) (st := [.inr (.inr 21), .inr (.inr 0)]) (d1 := d - 1) (sh1 := (pv_sc.take 76)) (h1 := hC_57) (r1 := none) dX9_init_20 md_X8_init ml_X9_18 im_X8_init rfl (ct_hC_21 (by omega)) (by omega) rfl rfl (Nat.le_of_ble_eq_true rfl) ⟨(pv_sc.take 225).drop 76, by decide +kernel⟩ ?_
  refine EV.putF dX9_init_23 (by decide +kernel) fl_9_19 rfl rfl rfl ⟨rfl, by decide +kernel, rfl⟩ ?_
  refine EV.eqH (h2 := hC_58) rfl ?_
  refine EV.aload_n dX9_init_26 rfl rfl ?_
  refine EV.iconst dX9_init_27 (by decide) (by decide) ?_
  refine EV.newaC7 (n := 76) (m := 2) (sh2 := (pv_sc.take 77)) (by decide +kernel) rfl (by decide +kernel) dX9_init_28 cl_X9_16 (by decide) (by decide) (by decide) ⟨(pv_sc.take 225).drop 77, by decide +kernel⟩ ?_
  refine EV.eqH (h2 := hC_59) rfl ?_
  refine EV.putF dX9_init_31 (by decide +kernel) fl_9_23 rfl rfl rfl ⟨rfl, by decide +kernel, rfl⟩ ?_
  refine EV.eqH (h2 := hC_60) rfl ?_
  refine EV.aload_n dX9_init_34 rfl rfl ?_
  refine EV.iconst dX9_init_35 (by decide) (by decide) ?_
  refine EV.newaC8 (n := 77) (m := 4) (sh2 := (pv_sc.take 78)) (by decide +kernel) rfl (by decide +kernel) dX9_init_36 cl_X9_27 (by decide) (by decide) (by decide) ⟨(pv_sc.take 225).drop 78, by decide +kernel⟩ ?_
  refine EV.eqH (h2 := hC_61) rfl ?_
  refine EV.putF dX9_init_39 (by decide +kernel) fl_9_29 rfl rfl rfl ⟨rfl, by decide +kernel, rfl⟩ ?_
  refine EV.eqH (h2 := hC_62) rfl ?_
  refine EV.aload_n dX9_init_42 rfl rfl ?_
  refine EV.bipush dX9_init_43 (by decide) (by decide) ?_
  refine EV.newaC1 (n := 78) (m := 8) (sh2 := (pv_sc.take 79)) (by decide +kernel) rfl (by decide +kernel) dX9_init_45 w_ar_int (by decide) (by decide) (by decide) ⟨(pv_sc.take 225).drop 79, by decide +kernel⟩ ?_
  refine EV.eqH (h2 := hC_63) rfl ?_
  refine EV.putF dX9_init_47 (by decide +kernel) fl_9_33 rfl rfl rfl ⟨rfl, by decide +kernel, rfl⟩ ?_
  refine EV.eqH (h2 := hC_64) rfl ?_
  refine EV.aload_n dX9_init_50 rfl rfl ?_
  refine EV.newoC (n := 79) (sh2 := (pv_sc.take 80)) (ci := 1) (by decide +kernel) (by decide +kernel) dX9_init_51 (by decide) cl_X9_37 in_X1 ii_X1 (by decide) ⟨(pv_sc.take 225).drop 80, by decide +kernel⟩ ?_
  refine EV.eqH (h2 := hC_65) rfl ?_
  refine EV.dup dX9_init_54 rfl ?_
  refine EV.invN (As := []) (st := [.inr (.inr 79), .inr (.inr 0)]) (d1 := d - 1) (sh1 := (pv_sc.take 100)) (h1 := hC_88) (r1 := none) dX9_init_55 md_X1_init mn_X9_39 im_X1_init rfl (ct_hC_79 (by omega)) (by omega) rfl rfl (Nat.le_of_ble_eq_true rfl) ⟨(pv_sc.take 225).drop 100, by decide +kernel⟩ ?_
  refine EV.putF dX9_init_58 (by decide +kernel) fl_9_40 rfl rfl rfl ⟨rfl, by decide +kernel, rfl⟩ ?_
  refine EV.eqH (h2 := hC_89) rfl ?_
  refine EV.aload_n dX9_init_61 rfl rfl ?_
  refine EV.newoC (n := 100) (sh2 := (pv_sc.take 101)) (ci := 5) (by decide +kernel) (by decide +kernel) dX9_init_62 (by decide) cl_X9_44 in_X5 ii_X5 (by decide) ⟨(pv_sc.take 225).drop 101, by decide +kernel⟩ ?_
  refine EV.eqH (h2 := hC_90) rfl ?_
  refine EV.dup dX9_init_65 rfl ?_
  refine EV.invN (As := []) (st := [.inr (.inr 100), .inr (.inr 0)]) (d1 := d - 1) (sh1 := (pv_sc.take 106)) (h1 := hC_91) (r1 := none) dX9_init_66 md_X5_init mn_X9_46 im_X5_init rfl (ct_X5 (d := d - 1) (sh := (pv_sc.take 101)) (sh2 := (pv_sc.take 106)) (n := 101) (by decide +kernel) (by decide +kernel) (by decide) (by omega) (by decide +kernel)) (by omega) rfl rfl (Nat.le_of_ble_eq_true rfl) ⟨(pv_sc.take 225).drop 106, by decide +kernel⟩ ?_
  refine EV.putF dX9_init_69 (by decide +kernel) fl_9_47 rfl rfl rfl ⟨rfl, by decide +kernel, rfl⟩ ?_
  refine EV.eqH (h2 := hC_92) rfl ?_
  refine EV.aload_n dX9_init_72 rfl rfl ?_
  refine EV.bipush dX9_init_73 (by decide) (by decide) ?_
  refine EV.newaC1 (n := 106) (m := 60) (sh2 := (pv_sc.take 107)) (by decide +kernel) rfl (by decide +kernel) dX9_init_75 w_ar_int (by decide) (by decide) (by decide) ⟨(pv_sc.take 225).drop 107, by decide +kernel⟩ ?_
  refine EV.eqH (h2 := hC_93) rfl ?_
  refine EV.putF dX9_init_77 (by decide +kernel) fl_9_51 rfl rfl rfl ⟨rfl, by decide +kernel, rfl⟩ ?_
  refine EV.eqH (h2 := hC_94) rfl ?_
  refine EV.iconst dX9_init_80 (by decide) (by decide) ?_
  refine EV.istore_n dX9_init_81 rfl (by decide) ?_
  refine EV.eqL (L2 := [some (.inr (.inr 0)), some (.inl (0))]) rfl ?_
  refine EV.iload_n dX9_init_82 rfl rfl ?_
  refine EV.iconst dX9_init_83 (by decide) (by decide) ?_
  refine EV.icmp_ge (tgt := 106) dX9_init_84 (by decide) (fun q => absurd q (by decide)) (fun _ => ?_)
  refine EV.aload_n dX9_init_87 rfl rfl ?_
  refine EV.getV (v := 76) dX9_init_88 (by decide +kernel) fl_9_23 rfl (by decide +kernel) ?_
  refine EV.iload_n dX9_init_91 rfl rfl ?_
  refine EV.newoC (n := 107) (sh2 := (pv_sc.take 108)) (ci := 8) (by decide +kernel) (by decide +kernel) dX9_init_92 (by decide) cl_X9_16 in_X8 ii_X8 (by decide) ⟨(pv_sc.take 225).drop 108, by decide +kernel⟩ ?_
  refine EV.eqH (h2 := hC_95) rfl ?_
  refine EV.dup dX9_init_95 rfl ?_
  refine EV.invI (As := []) (st := [.inr (.inr 107), .inl (0), .inr (.inr 76)]) (d1 := d - 1) (sh1 := (pv_sc.take 162)) (h1 := hC_132) (r1 := none) dX9_init_96 md_X8_init ml_X9_18 im_X8_init rfl (ct_hC_107 (by omega)) (by omega) rfl rfl (Nat.le_of_ble_eq_true rfl) ⟨(pv_sc.take 225).drop 162, by decide +kernel⟩ ?_
  refine EV.aast (a := 7) (ci := 8) (n := 2) dX9_init_99 (by decide +kernel) (by decide) (by decide +kernel) (by decide) (by decide) ?_
  refine EV.eqH (h2 := hC_133) rfl ?_
  refine EV.iinc dX9_init_100 rfl (by decide) ?_
  refine EV.eqL (L2 := [some (.inr (.inr 0)), some (.inl (1))]) (by decide +kernel) ?_
  refine EV.goto (tgt := 82) dX9_init_103 (by decide) ?_
  refine EV.iload_n dX9_init_82 rfl rfl ?_
  refine EV.iconst dX9_init_83 (by decide) (by decide) ?_
  refine EV.icmp_ge (tgt := 106) dX9_init_84 (by decide) (fun q => absurd q (by decide)) (fun _ => ?_)
  refine EV.aload_n dX9_init_87 rfl rfl ?_
  refine EV.getV (v := 76) dX9_init_88 (by decide +kernel) fl_9_23 rfl (by decide +kernel) ?_
  refine EV.iload_n dX9_init_91 rfl rfl ?_
  refine EV.newoC (n := 162) (sh2 := (pv_sc.take 163)) (ci := 8) (by decide +kernel) (by decide +kernel) dX9_init_92 (by decide) cl_X9_16 in_X8 ii_X8 (by decide) ⟨(pv_sc.take 225).drop 163, by decide +kernel⟩ ?_
  refine EV.eqH (h2 := hC_134) rfl ?_
  refine EV.dup dX9_init_95 rfl ?_
  refine EV.invI (As := []) (st := [.inr (.inr 162), .inl (1), .inr (.inr 76)]) (d1 := d - 1) (sh1 := (pv_sc.take 217)) (h1 := hC_171) (r1 := none) dX9_init_96 md_X8_init ml_X9_18 im_X8_init rfl (ct_hC_162 (by omega)) (by omega) rfl rfl (Nat.le_of_ble_eq_true rfl) ⟨(pv_sc.take 225).drop 217, by decide +kernel⟩ ?_
  refine EV.aast (a := 7) (ci := 8) (n := 2) dX9_init_99 (by decide +kernel) (by decide) (by decide +kernel) (by decide) (by decide) ?_
  refine EV.eqH (h2 := hC_172) rfl ?_
  refine EV.iinc dX9_init_100 rfl (by decide) ?_
  refine EV.eqL (L2 := [some (.inr (.inr 0)), some (.inl (2))]) (by decide +kernel) ?_
  refine EV.goto (tgt := 82) dX9_init_103 (by decide) ?_
  refine EV.iload_n dX9_init_82 rfl rfl ?_
  refine EV.iconst dX9_init_83 (by decide) (by decide) ?_
  refine EV.icmp_ge (tgt := 106) dX9_init_84 (by decide) (fun _ => ?_) (fun q => absurd (by decide) q)
  refine EV.iconst dX9_init_106 (by decide) (by decide) ?_
  refine EV.istore_n dX9_init_107 rfl (by decide) ?_
  refine EV.eqL (L2 := [some (.inr (.inr 0)), some (.inl (0))]) rfl ?_
  refine EV.iload_n dX9_init_108 rfl rfl ?_
  refine EV.iconst dX9_init_109 (by decide) (by decide) ?_
  refine EV.icmp_ge (tgt := 132) dX9_init_110 (by decide) (fun q => absurd q (by decide)) (fun _ => ?_)
  refine EV.aload_n dX9_init_113 rfl rfl ?_
  refine EV.getV (v := 77) dX9_init_114 (by decide +kernel) fl_9_29 rfl (by decide +kernel) ?_
  refine EV.iload_n dX9_init_117 rfl rfl ?_
  refine EV.newoC (n := 217) (sh2 := (pv_sc.take 218)) (ci := 6) (by decide +kernel) (by decide +kernel) dX9_init_118 (by decide) cl_X9_27 in_X6 ii_X6 (by decide) ⟨(pv_sc.take 225).drop 218, by decide +kernel⟩ ?_
  refine EV.eqH (h2 := hC_173) rfl ?_
  refine EV.dup dX9_init_121 rfl ?_
  refine EV.invN (As := []) (st := [.inr (.inr 217), .inl (0), .inr (.inr 77)]) (d1 := d - 1) (sh1 := (pv_sc.take 219)) (h1 := hC_174) (r1 := none) dX9_init_122 md_X6_init mn_X9_54 im_X6_init rfl (ct_X6 (d := d - 1) (sh := (pv_sc.take 218)) (sh2 := (pv_sc.take 219)) (n := 218) (by decide +kernel) (by decide +kernel) (by decide) (by omega) (by decide +kernel)) (by omega) rfl rfl (Nat.le_of_ble_eq_true rfl) ⟨(pv_sc.take 225).drop 219, by decide +kernel⟩ ?_
  refine EV.aast (a := 8) (ci := 6) (n := 4) dX9_init_125 (by decide +kernel) (by decide) (by decide +kernel) (by decide) (by decide) ?_
  refine EV.eqH (h2 := hC_175) rfl ?_
  refine EV.iinc dX9_init_126 rfl (by decide) ?_
  refine EV.eqL (L2 := [some (.inr (.inr 0)), some (.inl (1))]) (by decide +kernel) ?_
  refine EV.goto (tgt := 108) dX9_init_129 (by decide) ?_
  refine EV.iload_n dX9_init_108 rfl rfl ?_
  refine EV.iconst dX9_init_109 (by decide) (by decide) ?_
  refine EV.icmp_ge (tgt := 132) dX9_init_110 (by decide) (fun q => absurd q (by decide)) (fun _ => ?_)
  refine EV.aload_n dX9_init_113 rfl rfl ?_
  refine EV.getV (v := 77) dX9_init_114 (by decide +kernel) fl_9_29 rfl (by decide +kernel) ?_
  refine EV.iload_n dX9_init_117 rfl rfl ?_
  refine EV.newoC (n := 219) (sh2 := (pv_sc.take 220)) (ci := 6) (by decide +kernel) (by decide +kernel) dX9_init_118 (by decide) cl_X9_27 in_X6 ii_X6 (by decide) ⟨(pv_sc.take 225).drop 220, by decide +kernel⟩ ?_
  refine EV.eqH (h2 := hC_176) rfl ?_
  refine EV.dup dX9_init_121 rfl ?_
  refine EV.invN (As := []) (st := [.inr (.inr 219), .inl (1), .inr (.inr 77)]) (d1 := d - 1) (sh1 := (pv_sc.take 221)) (h1 := hC_177) (r1 := none) dX9_init_122 md_X6_init mn_X9_54 im_X6_init rfl (ct_X6 (d := d - 1) (sh := (pv_sc.take 220)) (sh2 := (pv_sc.take 221)) (n := 220) (by decide +kernel) (by decide +kernel) (by decide) (by omega) (by decide +kernel)) (by omega) rfl rfl (Nat.le_of_ble_eq_true rfl) ⟨(pv_sc.take 225).drop 221, by decide +kernel⟩ ?_
  refine EV.aast (a := 8) (ci := 6) (n := 4) dX9_init_125 (by decide +kernel) (by decide) (by decide +kernel) (by decide) (by decide) ?_
  refine EV.eqH (h2 := hC_178) rfl ?_
  refine EV.iinc dX9_init_126 rfl (by decide) ?_
  refine EV.eqL (L2 := [some (.inr (.inr 0)), some (.inl (2))]) (by decide +kernel) ?_
  refine EV.goto (tgt := 108) dX9_init_129 (by decide) ?_
  refine EV.iload_n dX9_init_108 rfl rfl ?_
  refine EV.iconst dX9_init_109 (by decide) (by decide) ?_
  refine EV.icmp_ge (tgt := 132) dX9_init_110 (by decide) (fun q => absurd q (by decide)) (fun _ => ?_)
  refine EV.aload_n dX9_init_113 rfl rfl ?_
  refine EV.getV (v := 77) dX9_init_114 (by decide +kernel) fl_9_29 rfl (by decide +kernel) ?_
  refine EV.iload_n dX9_init_117 rfl rfl ?_
  refine EV.newoC (n := 221) (sh2 := (pv_sc.take 222)) (ci := 6) (by decide +kernel) (by decide +kernel) dX9_init_118 (by decide) cl_X9_27 in_X6 ii_X6 (by decide) ⟨(pv_sc.take 225).drop 222, by decide +kernel⟩ ?_
  refine EV.eqH (h2 := hC_179) rfl ?_
  refine EV.dup dX9_init_121 rfl ?_
  refine EV.invN (As := []) (st := [.inr (.inr 221), .inl (2), .inr (.inr 77)]) (d1 := d - 1) (sh1 := (pv_sc.take 223)) (h1 := hC_180) (r1 := none) dX9_init_122 md_X6_init mn_X9_54 im_X6_init rfl (ct_X6 (d := d - 1) (sh := (pv_sc.take 222)) (sh2 := (pv_sc.take 223)) (n := 222) (by decide +kernel) (by decide +kernel) (by decide) (by omega) (by decide +kernel)) (by omega) rfl rfl (Nat.le_of_ble_eq_true rfl) ⟨(pv_sc.take 225).drop 223, by decide +kernel⟩ ?_
  refine EV.aast (a := 8) (ci := 6) (n := 4) dX9_init_125 (by decide +kernel) (by decide) (by decide +kernel) (by decide) (by decide) ?_
  refine EV.eqH (h2 := hC_181) rfl ?_
  refine EV.iinc dX9_init_126 rfl (by decide) ?_
  refine EV.eqL (L2 := [some (.inr (.inr 0)), some (.inl (3))]) (by decide +kernel) ?_
  refine EV.goto (tgt := 108) dX9_init_129 (by decide) ?_
  refine EV.iload_n dX9_init_108 rfl rfl ?_
  refine EV.iconst dX9_init_109 (by decide) (by decide) ?_
  refine EV.icmp_ge (tgt := 132) dX9_init_110 (by decide) (fun q => absurd q (by decide)) (fun _ => ?_)
  refine EV.aload_n dX9_init_113 rfl rfl ?_
  refine EV.getV (v := 77) dX9_init_114 (by decide +kernel) fl_9_29 rfl (by decide +kernel) ?_
  refine EV.iload_n dX9_init_117 rfl rfl ?_
  refine EV.newoC (n := 223) (sh2 := (pv_sc.take 224)) (ci := 6) (by decide +kernel) (by decide +kernel) dX9_init_118 (by decide) cl_X9_27 in_X6 ii_X6 (by decide) ⟨(pv_sc.take 225).drop 224, by decide +kernel⟩ ?_
  refine EV.eqH (h2 := hC_182) rfl ?_
  refine EV.dup dX9_init_121 rfl ?_
  refine EV.invN (As := []) (st := [.inr (.inr 223), .inl (3), .inr (.inr 77)]) (d1 := d - 1) (sh1 := (pv_sc.take 225)) (h1 := hC_183) (r1 := none) dX9_init_122 md_X6_init mn_X9_54 im_X6_init rfl (ct_X6 (d := d - 1) (sh := (pv_sc.take 224)) (sh2 := (pv_sc.take 225)) (n := 224) (by decide +kernel) (by decide +kernel) (by decide) (by omega) (by decide +kernel)) (by omega) rfl rfl (Nat.le_of_ble_eq_true rfl) ⟨(pv_sc.take 225).drop 225, by decide +kernel⟩ ?_
  refine EV.aast (a := 8) (ci := 6) (n := 4) dX9_init_125 (by decide +kernel) (by decide) (by decide +kernel) (by decide) (by decide) ?_
  refine EV.eqH (h2 := hC_184) rfl ?_
  refine EV.iinc dX9_init_126 rfl (by decide) ?_
  refine EV.eqL (L2 := [some (.inr (.inr 0)), some (.inl (4))]) (by decide +kernel) ?_
  refine EV.goto (tgt := 108) dX9_init_129 (by decide) ?_
  refine EV.iload_n dX9_init_108 rfl rfl ?_
  refine EV.iconst dX9_init_109 (by decide) (by decide) ?_
  refine EV.icmp_ge (tgt := 132) dX9_init_110 (by decide) (fun _ => ?_) (fun q => absurd (by decide) q)
  exact EV.vret dX9_init_132

def pv_sp : pv_Sh := [(0, 9), (0, 4), (0, 5), (1, 60), (1, 60), (1, 60), (1, 60), (1, 60), (0, 0), (1, 12), (1, 12), (1, 12), (0, 2), (1, 8), (0, 3), (1, 9), (1, 400), (1, 400), (1, 401), (4, 400), (0, 8), (5, 4), (6, 4), (0, 2), (1, 8), (0, 3), (1, 9), (1, 400), (1, 400), (1, 401), (0, 7), (1, 8), (1, 240), (1, 1200), (1, 60), (0, 5), (1, 60), (1, 60), (1, 60), (1, 60), (1, 60), (0, 5), (1, 60), (1, 60), (1, 60), (1, 60), (1, 60), (0, 5), (1, 60), (1, 60), (1, 60), (1, 60), (1, 60), (0, 5), (1, 60), (1, 60), (1, 60), (1, 60), (1, 60), (0, 0), (1, 12), (1, 12), (1, 12), (0, 0), (1, 12), (1, 12), (1, 12), (0, 0), (1, 12), (1, 12), (1, 12), (0, 0), (1, 12), (1, 12), (1, 12), (7, 2), (8, 4), (1, 8), (0, 1), (0, 7), (1, 8), (1, 240), (1, 1200), (1, 60), (0, 5), (1, 60), (1, 60), (1, 60), (1, 60), (1, 60), (0, 2), (1, 8), (1, 60), (1, 60), (1, 60), (1, 60), (1, 200), (1, 200), (1, 200), (0, 5), (1, 60), (1, 60), (1, 60), (1, 60), (1, 60), (1, 60), (0, 8), (5, 4), (6, 4), (0, 2), (1, 8), (0, 3), (1, 9), (1, 400), (1, 400), (1, 401), (0, 7), (1, 8), (1, 240), (1, 1200), (1, 60), (0, 5), (1, 60), (1, 60), (1, 60), (1, 60), (1, 60), (0, 5), (1, 60), (1, 60), (1, 60), (1, 60), (1, 60), (0, 5), (1, 60), (1, 60), (1, 60), (1, 60), (1, 60), (0, 5), (1, 60), (1, 60), (1, 60), (1, 60), (1, 60), (0, 0), (1, 12), (1, 12), (1, 12), (0, 0), (1, 12), (1, 12), (1, 12), (0, 0), (1, 12), (1, 12), (1, 12), (0, 0), (1, 12), (1, 12), (1, 12), (0, 8), (5, 4), (6, 4), (0, 2), (1, 8), (0, 3), (1, 9), (1, 400), (1, 400), (1, 401), (0, 7), (1, 8), (1, 240), (1, 1200), (1, 60), (0, 5), (1, 60), (1, 60), (1, 60), (1, 60), (1, 60), (0, 5), (1, 60), (1, 60), (1, 60), (1, 60), (1, 60), (0, 5), (1, 60), (1, 60), (1, 60), (1, 60), (1, 60), (0, 5), (1, 60), (1, 60), (1, 60), (1, 60), (1, 60), (0, 0), (1, 12), (1, 12), (1, 12), (0, 0), (1, 12), (1, 12), (1, 12), (0, 0), (1, 12), (1, 12), (1, 12), (0, 0), (1, 12), (1, 12), (1, 12), (0, 6), (2, 60), (0, 6), (2, 60), (0, 6), (2, 60), (0, 6), (2, 60), (9, 204)]
def pv_pf (i : Nat) : Nat := if i < 20 then i else if i = 224 then 20 else i + 1
def pv_pg (j : Nat) : Nat := if j < 20 then j else if j = 20 then 224 else j - 1
/-- a picture under other numbers: what was f i is i -/
def pv_ph (sh2 : pv_Sh) (f g : Nat → Nat) (h1 : pv_H) : pv_H := fun i k => if pv_kd (sh2.getD i (0, 0)) k = 2 then (if h1 (f i) k < 0 then -1 else (g (h1 (f i) k).toNat : Int)) else h1 (f i) k
def hC_fin : pv_H := pv_ph pv_sp pv_pf pv_pg hC_184
