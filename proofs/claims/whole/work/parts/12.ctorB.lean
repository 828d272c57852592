def pv_sc : pv_Sh := [(0, 9), (0, 4), (0, 5), (1, 60), (1, 60), (1, 60), (1, 60), (1, 60), (0, 0), (1, 12), (1, 12), (1, 12), (0, 2), (1, 8), (0, 3), (1, 9), (1, 400), (1, 400), (1, 401), (4, 400), (0, 8), (5, 4), (6, 4), (0, 2), (1, 8), (0, 3), (1, 9), (1, 400), (1, 400), (1, 401), (0, 7), (1, 8), (1, 240), (1, 1200), (1, 60), (0, 5), (1, 60), (1, 60), (1, 60), (1, 60), (1, 60), (0, 5), (1, 60), (1, 60), (1, 60), (1, 60), (1, 60), (0, 5), (1, 60), (1, 60), (1, 60), (1, 60), (1, 60), (0, 5), (1, 60), (1, 60), (1, 60), (1, 60), (1, 60), (0, 0), (1, 12), (1, 12), (1, 12), (0, 0), (1, 12), (1, 12), (1, 12), (0, 0), (1, 12), (1, 12), (1, 12), (0, 0), (1, 12), (1, 12), (1, 12), (7, 2), (8, 4), (1, 8), (0, 1), (0, 7), (1, 8), (1, 240), (1, 1200), (1, 60), (0, 5), (1, 60), (1, 60), (1, 60), (1, 60), (1, 60), (0, 2), (1, 8), (1, 60), (1, 60), (1, 60), (1, 60), (1, 200), (1, 200), (1, 200), (0, 5), (1, 60), (1, 60), (1, 60), (1, 60), (1, 60), (1, 60), (0, 8), (5, 4), (6, 4), (0, 2), (1, 8), (0, 3), (1, 9), (1, 400), (1, 400), (1, 401), (0, 7), (1, 8), (1, 240), (1, 1200), (1, 60), (0, 5), (1, 60), (1, 60), (1, 60), (1, 60), (1, 60), (0, 5), (1, 60), (1, 60), (1, 60), (1, 60), (1, 60), (0, 5), (1, 60), (1, 60), (1, 60), (1, 60), (1, 60), (0, 5), (1, 60), (1, 60), (1, 60), (1, 60), (1, 60), (0, 0), (1, 12), (1, 12), (1, 12), (0, 0), (1, 12), (1, 12), (1, 12), (0, 0), (1, 12), (1, 12), (1, 12), (0, 0), (1, 12), (1, 12), (1, 12), (0, 8), (5, 4), (6, 4), (0, 2), (1, 8), (0, 3), (1, 9), (1, 400), (1, 400), (1, 401), (0, 7), (1, 8), (1, 240), (1, 1200), (1, 60), (0, 5), (1, 60), (1, 60), (1, 60), (1, 60), (1, 60), (0, 5), (1, 60), (1, 60), (1, 60), (1, 60), (1, 60), (0, 5), (1, 60), (1, 60), (1, 60), (1, 60), (1, 60), (0, 5), (1, 60), (1, 60), (1, 60), (1, 60), (1, 60), (0, 0), (1, 12), (1, 12), (1, 12), (0, 0), (1, 12), (1, 12), (1, 12), (0, 0), (1, 12), (1, 12), (1, 12), (0, 0), (1, 12), (1, 12), (1, 12), (0, 6), (2, 60), (0, 6), (2, 60), (0, 6), (2, 60), (0, 6), (2, 60)]
def hC_0 : pv_H := pv_ur (fun _ _ => 0) 0 (pv_nr 9)
def hC_1 : pv_H := pv_ur hC_0 1 (pv_nr 4)
def hC_2 : pv_H := pv_up hC_1 1 2 (-1)
def hC_3 : pv_H := pv_ur hC_2 2 (pv_nr 5)
def hC_4 : pv_H := K_X5 3 hC_3 2
def hC_5 : pv_H := pv_up hC_4 1 3 (2)
def hC_6 : pv_H := pv_ur hC_5 8 (pv_nr 0)
def hC_7 : pv_H := K_X0 9 hC_6 8
def hC_8 : pv_H := pv_up hC_7 1 4 (8)
def hC_9 : pv_H := pv_ur hC_8 12 (pv_nr 2)
def hC_10 : pv_H := K_X2 13 hC_9 12
def hC_11 : pv_H := pv_up hC_10 1 5 (12)
def hC_12 : pv_H := pv_ur hC_11 14 (pv_nr 3)
def hC_13 : pv_H := K_X3 15 hC_12 14
def hC_14 : pv_H := pv_up hC_13 1 6 (14)
def hC_15 : pv_H := pv_ur hC_14 19 (fun _ => 0)
def hC_16 : pv_H := pv_up hC_15 1 7 (19)
def hC_17 : pv_H := pv_up hC_16 0 0 (1)
def hC_18 : pv_H := pv_ur hC_17 20 (pv_nr 8)
def hC_19 : pv_H := pv_ur hC_18 21 (fun _ => -1)
def hC_20 : pv_H := pv_up hC_19 20 2 (21)
def hC_21 : pv_H := pv_ur hC_20 22 (fun _ => -1)
def hC_22 : pv_H := pv_up hC_21 20 3 (22)
def hC_23 : pv_H := pv_ur hC_22 23 (pv_nr 2)
def hC_24 : pv_H := K_X2 24 hC_23 23
def hC_25 : pv_H := pv_up hC_24 20 4 (23)
def hC_26 : pv_H := pv_ur hC_25 25 (pv_nr 3)
def hC_27 : pv_H := K_X3 26 hC_26 25
def hC_28 : pv_H := pv_up hC_27 20 5 (25)
def hC_29 : pv_H := pv_ur hC_28 30 (pv_nr 7)
def hC_30 : pv_H := K_X7 31 hC_29 30
def hC_31 : pv_H := pv_up hC_30 20 6 (30)
def hC_32 : pv_H := pv_ur hC_31 35 (pv_nr 5)
def hC_33 : pv_H := K_X5 36 hC_32 35
def hC_34 : pv_H := pv_up hC_33 21 0 35
def hC_35 : pv_H := pv_ur hC_34 41 (pv_nr 5)
def hC_36 : pv_H := K_X5 42 hC_35 41
def hC_37 : pv_H := pv_up hC_36 21 1 41
def hC_38 : pv_H := pv_ur hC_37 47 (pv_nr 5)
def hC_39 : pv_H := K_X5 48 hC_38 47
def hC_40 : pv_H := pv_up hC_39 21 2 47
def hC_41 : pv_H := pv_ur hC_40 53 (pv_nr 5)
def hC_42 : pv_H := K_X5 54 hC_41 53
def hC_43 : pv_H := pv_up hC_42 21 3 53
def hC_44 : pv_H := pv_ur hC_43 59 (pv_nr 0)
def hC_45 : pv_H := K_X0 60 hC_44 59
def hC_46 : pv_H := pv_up hC_45 22 0 59
def hC_47 : pv_H := pv_ur hC_46 63 (pv_nr 0)
def hC_48 : pv_H := K_X0 64 hC_47 63
def hC_49 : pv_H := pv_up hC_48 22 1 63
def hC_50 : pv_H := pv_ur hC_49 67 (pv_nr 0)
def hC_51 : pv_H := K_X0 68 hC_50 67
def hC_52 : pv_H := pv_up hC_51 22 2 67
def hC_53 : pv_H := pv_ur hC_52 71 (pv_nr 0)
def hC_54 : pv_H := K_X0 72 hC_53 71
def hC_55 : pv_H := pv_up hC_54 22 3 71
def hC_56 : pv_H := pv_up hC_55 0 1 (20)
def hC_57 : pv_H := pv_ur hC_56 75 (fun _ => -1)
def hC_58 : pv_H := pv_up hC_57 0 2 (75)
def hC_59 : pv_H := pv_ur hC_58 76 (fun _ => -1)
def hC_60 : pv_H := pv_up hC_59 0 3 (76)
def hC_61 : pv_H := pv_ur hC_60 77 (fun _ => 0)
def hC_62 : pv_H := pv_up hC_61 0 4 (77)
def hC_63 : pv_H := pv_ur hC_62 78 (pv_nr 1)
def hC_64 : pv_H := pv_ur hC_63 79 (pv_nr 7)
def hC_65 : pv_H := K_X7 80 hC_64 79
def hC_66 : pv_H := pv_up hC_65 78 0 (79)
def hC_67 : pv_H := pv_ur hC_66 84 (pv_nr 5)
def hC_68 : pv_H := K_X5 85 hC_67 84
def hC_69 : pv_H := pv_up hC_68 78 3 (84)
def hC_70 : pv_H := pv_ur hC_69 90 (pv_nr 2)
def hC_71 : pv_H := K_X2 91 hC_70 90
def hC_72 : pv_H := pv_up hC_71 78 4 (90)
def hC_73 : pv_H := pv_ur hC_72 92 (fun _ => 0)
def hC_74 : pv_H := pv_up hC_73 78 11 (92)
def hC_75 : pv_H := pv_ur hC_74 93 (fun _ => 0)
def hC_76 : pv_H := pv_up hC_75 78 12 (93)
def hC_77 : pv_H := pv_ur hC_76 94 (fun _ => 0)
def hC_78 : pv_H := pv_up hC_77 78 13 (94)
def hC_79 : pv_H := pv_ur hC_78 95 (fun _ => 0)
def hC_80 : pv_H := pv_up hC_79 78 14 (95)
def hC_81 : pv_H := pv_ur hC_80 96 (fun _ => 0)
def hC_82 : pv_H := pv_up hC_81 78 15 (96)
def hC_83 : pv_H := pv_ur hC_82 97 (fun _ => 0)
def hC_84 : pv_H := pv_up hC_83 78 16 (97)
def hC_85 : pv_H := pv_ur hC_84 98 (fun _ => 0)
def hC_86 : pv_H := pv_up hC_85 78 17 (98)
def hC_87 : pv_H := pv_up hC_86 0 5 (78)
def hC_88 : pv_H := pv_ur hC_87 99 (pv_nr 5)
def hC_89 : pv_H := K_X5 100 hC_88 99
def hC_90 : pv_H := pv_up hC_89 0 6 (99)
def hC_91 : pv_H := pv_ur hC_90 105 (fun _ => 0)
def hC_92 : pv_H := pv_up hC_91 0 7 (105)
def hC_93 : pv_H := pv_ur hC_92 106 (pv_nr 8)
def hC_94 : pv_H := pv_ur hC_93 107 (fun _ => -1)
def hC_95 : pv_H := pv_up hC_94 106 2 (107)
def hC_96 : pv_H := pv_ur hC_95 108 (fun _ => -1)
def hC_97 : pv_H := pv_up hC_96 106 3 (108)
def hC_98 : pv_H := pv_ur hC_97 109 (pv_nr 2)
def hC_99 : pv_H := K_X2 110 hC_98 109
def hC_100 : pv_H := pv_up hC_99 106 4 (109)
def hC_101 : pv_H := pv_ur hC_100 111 (pv_nr 3)
def hC_102 : pv_H := K_X3 112 hC_101 111
def hC_103 : pv_H := pv_up hC_102 106 5 (111)
def hC_104 : pv_H := pv_ur hC_103 116 (pv_nr 7)
def hC_105 : pv_H := K_X7 117 hC_104 116
def hC_106 : pv_H := pv_up hC_105 106 6 (116)
def hC_107 : pv_H := pv_ur hC_106 121 (pv_nr 5)
def hC_108 : pv_H := K_X5 122 hC_107 121
def hC_109 : pv_H := pv_up hC_108 107 0 121
def hC_110 : pv_H := pv_ur hC_109 127 (pv_nr 5)
def hC_111 : pv_H := K_X5 128 hC_110 127
def hC_112 : pv_H := pv_up hC_111 107 1 127
def hC_113 : pv_H := pv_ur hC_112 133 (pv_nr 5)
def hC_114 : pv_H := K_X5 134 hC_113 133
def hC_115 : pv_H := pv_up hC_114 107 2 133
def hC_116 : pv_H := pv_ur hC_115 139 (pv_nr 5)
def hC_117 : pv_H := K_X5 140 hC_116 139
def hC_118 : pv_H := pv_up hC_117 107 3 139
def hC_119 : pv_H := pv_ur hC_118 145 (pv_nr 0)
def hC_120 : pv_H := K_X0 146 hC_119 145
def hC_121 : pv_H := pv_up hC_120 108 0 145
def hC_122 : pv_H := pv_ur hC_121 149 (pv_nr 0)
def hC_123 : pv_H := K_X0 150 hC_122 149
def hC_124 : pv_H := pv_up hC_123 108 1 149
def hC_125 : pv_H := pv_ur hC_124 153 (pv_nr 0)
def hC_126 : pv_H := K_X0 154 hC_125 153
def hC_127 : pv_H := pv_up hC_126 108 2 153
def hC_128 : pv_H := pv_ur hC_127 157 (pv_nr 0)
def hC_129 : pv_H := K_X0 158 hC_128 157
def hC_130 : pv_H := pv_up hC_129 108 3 157
def hC_131 : pv_H := pv_up hC_130 75 0 106
def hC_132 : pv_H := pv_ur hC_131 161 (pv_nr 8)
def hC_133 : pv_H := pv_ur hC_132 162 (fun _ => -1)
def hC_134 : pv_H := pv_up hC_133 161 2 (162)
def hC_135 : pv_H := pv_ur hC_134 163 (fun _ => -1)
def hC_136 : pv_H := pv_up hC_135 161 3 (163)
def hC_137 : pv_H := pv_ur hC_136 164 (pv_nr 2)
def hC_138 : pv_H := K_X2 165 hC_137 164
def hC_139 : pv_H := pv_up hC_138 161 4 (164)
def hC_140 : pv_H := pv_ur hC_139 166 (pv_nr 3)
def hC_141 : pv_H := K_X3 167 hC_140 166
def hC_142 : pv_H := pv_up hC_141 161 5 (166)
def hC_143 : pv_H := pv_ur hC_142 171 (pv_nr 7)
def hC_144 : pv_H := K_X7 172 hC_143 171
def hC_145 : pv_H := pv_up hC_144 161 6 (171)
def hC_146 : pv_H := pv_ur hC_145 176 (pv_nr 5)
def hC_147 : pv_H := K_X5 177 hC_146 176
def hC_148 : pv_H := pv_up hC_147 162 0 176
def hC_149 : pv_H := pv_ur hC_148 182 (pv_nr 5)
def hC_150 : pv_H := K_X5 183 hC_149 182
def hC_151 : pv_H := pv_up hC_150 162 1 182
def hC_152 : pv_H := pv_ur hC_151 188 (pv_nr 5)
def hC_153 : pv_H := K_X5 189 hC_152 188
def hC_154 : pv_H := pv_up hC_153 162 2 188
def hC_155 : pv_H := pv_ur hC_154 194 (pv_nr 5)
def hC_156 : pv_H := K_X5 195 hC_155 194
def hC_157 : pv_H := pv_up hC_156 162 3 194
def hC_158 : pv_H := pv_ur hC_157 200 (pv_nr 0)
def hC_159 : pv_H := K_X0 201 hC_158 200
def hC_160 : pv_H := pv_up hC_159 163 0 200
def hC_161 : pv_H := pv_ur hC_160 204 (pv_nr 0)
def hC_162 : pv_H := K_X0 205 hC_161 204
def hC_163 : pv_H := pv_up hC_162 163 1 204
def hC_164 : pv_H := pv_ur hC_163 208 (pv_nr 0)
def hC_165 : pv_H := K_X0 209 hC_164 208
def hC_166 : pv_H := pv_up hC_165 163 2 208
def hC_167 : pv_H := pv_ur hC_166 212 (pv_nr 0)
def hC_168 : pv_H := K_X0 213 hC_167 212
def hC_169 : pv_H := pv_up hC_168 163 3 212
def hC_170 : pv_H := pv_up hC_169 75 1 161
def hC_171 : pv_H := pv_ur hC_170 216 (pv_nr 6)
def hC_172 : pv_H := K_X6 217 hC_171 216
def hC_173 : pv_H := pv_up hC_172 76 0 216
def hC_174 : pv_H := pv_ur hC_173 218 (pv_nr 6)
def hC_175 : pv_H := K_X6 219 hC_174 218
def hC_176 : pv_H := pv_up hC_175 76 1 218
def hC_177 : pv_H := pv_ur hC_176 220 (pv_nr 6)
def hC_178 : pv_H := K_X6 221 hC_177 220
def hC_179 : pv_H := pv_up hC_178 76 2 220
def hC_180 : pv_H := pv_ur hC_179 222 (pv_nr 6)
def hC_181 : pv_H := K_X6 223 hC_180 222
def hC_182 : pv_H := pv_up hC_181 76 3 222
theorem ct_hC_1 {d : Nat} (hd : 3 ≤ d) : CALL yX4_init cX4_init 1 none d (pv_sc.take 2) hC_1 [.inr (.inr 1)] (pv_sc.take 20) hC_16 none := by
  refine EV.call (own := RX4) (ini := true) rfl rfl (fun _ => rfl) ⟨(pv_sc.take 20).drop 2, by decide +kernel⟩ (Nat.le_of_ble_eq_true rfl) ?_
  refine EV.eqL (L2 := [some (.inr (.inr 1))]) rfl ?_
  refine EV.aload_n dX4_init_0 rfl rfl ?_
  refine EV.obj dX4_init_1 ml_X4_3 w_oii w_oic (by omega) (Nat.le_of_ble_eq_true rfl) ?_
  refine EV.aload_n dX4_init_4 rfl rfl ?_
  refine EV.iconst dX4_init_5 (by decide) (by decide) ?_
  refine EV.put dX4_init_6 (by decide +kernel) fl_4_9 rfl ⟨rfl, Or.inl rfl⟩ ?_
  refine EV.eqH (h2 := hC_2) rfl ?_
  refine EV.aload_n dX4_init_9 rfl rfl ?_
  refine EV.newoC (n := 2) (sh2 := (pv_sc.take 3)) (ci := 5) (by decide +kernel) (by decide +kernel) dX4_init_10 (by decide) cl_X4_15 in_X5 ii_X5 (by decide) ⟨(pv_sc.take 20).drop 3, by decide +kernel⟩ ?_
  refine EV.eqH (h2 := hC_3) rfl ?_
  refine EV.dup dX4_init_13 rfl ?_
  refine EV.invN (As := []) (st := [.inr (.inr 2), .inr (.inr 1)]) (d1 := d - 1) (sh1 := (pv_sc.take 8)) (h1 := hC_4) (r1 := none) dX4_init_14 md_X5_init mn_X4_17 im_X5_init rfl (ct_X5 (d := d - 1) (sh := (pv_sc.take 3)) (sh2 := (pv_sc.take 8)) (n := 3) (by decide +kernel) (by decide +kernel) (by decide) (by omega) (by decide +kernel)) (by omega) rfl rfl (Nat.le_of_ble_eq_true rfl) ⟨(pv_sc.take 20).drop 8, by decide +kernel⟩ ?_
  refine EV.putF dX4_init_17 (by decide +kernel) fl_4_18 rfl rfl rfl ⟨rfl, by decide +kernel, rfl⟩ ?_
  refine EV.eqH (h2 := hC_5) rfl ?_
  refine EV.aload_n dX4_init_20 rfl rfl ?_
  refine EV.newoC (n := 8) (sh2 := (pv_sc.take 9)) (ci := 0) (by decide +kernel) (by decide +kernel) dX4_init_21 (by decide) cl_X4_22 in_X0 ii_X0 (by decide) ⟨(pv_sc.take 20).drop 9, by decide +kernel⟩ ?_
  refine EV.eqH (h2 := hC_6) rfl ?_
  refine EV.dup dX4_init_24 rfl ?_
  refine EV.invN (As := []) (st := [.inr (.inr 8), .inr (.inr 1)]) (d1 := d - 1) (sh1 := (pv_sc.take 12)) (h1 := hC_7) (r1 := none) dX4_init_25 md_X0_init mn_X4_24 im_X0_init rfl (ct_X0 (d := d - 1) (sh := (pv_sc.take 9)) (sh2 := (pv_sc.take 12)) (n := 9) (by decide +kernel) (by decide +kernel) (by decide) (by omega) (by decide +kernel)) (by omega) rfl rfl (Nat.le_of_ble_eq_true rfl) ⟨(pv_sc.take 20).drop 12, by decide +kernel⟩ ?_
  refine EV.putF dX4_init_28 (by decide +kernel) fl_4_25 rfl rfl rfl ⟨rfl, by decide +kernel, rfl⟩ ?_
  refine EV.eqH (h2 := hC_8) rfl ?_
  refine EV.aload_n dX4_init_31 rfl rfl ?_
  refine EV.newoC (n := 12) (sh2 := (pv_sc.take 13)) (ci := 2) (by decide +kernel) (by decide +kernel) dX4_init_32 (by decide) cl_X4_29 in_X2 ii_X2 (by decide) ⟨(pv_sc.take 20).drop 13, by decide +kernel⟩ ?_
  refine EV.eqH (h2 := hC_9) rfl ?_
  refine EV.dup dX4_init_35 rfl ?_
  refine EV.invI (As := []) (st := [.inr (.inr 12), .inr (.inr 1)]) (d1 := d - 1) (sh1 := (pv_sc.take 14)) (h1 := hC_10) (r1 := none) dX4_init_36 md_X2_init ml_X4_31 im_X2_init rfl (ct_X2 (d := d - 1) (sh := (pv_sc.take 13)) (sh2 := (pv_sc.take 14)) (n := 13) (by decide +kernel) (by decide +kernel) (by decide) (by omega) (by decide +kernel)) (by omega) rfl rfl (Nat.le_of_ble_eq_true rfl) ⟨(pv_sc.take 20).drop 14, by decide +kernel⟩ ?_
  refine EV.putF dX4_init_39 (by decide +kernel) fl_4_32 rfl rfl rfl ⟨rfl, by decide +kernel, rfl⟩ ?_
  refine EV.eqH (h2 := hC_11) rfl ?_
  refine EV.aload_n dX4_init_42 rfl rfl ?_
  refine EV.newoC (n := 14) (sh2 := (pv_sc.take 15)) (ci := 3) (by decide +kernel) (by decide +kernel) dX4_init_43 (by decide) cl_X4_36 in_X3 ii_X3 (by decide) ⟨(pv_sc.take 20).drop 15, by decide +kernel⟩ ?_
  refine EV.eqH (h2 := hC_12) rfl ?_
  refine EV.dup dX4_init_46 rfl ?_
  refine EV.invN (As := []) (st := [.inr (.inr 14), .inr (.inr 1)]) (d1 := d - 1) (sh1 := (pv_sc.take 19)) (h1 := hC_13) (r1 := none) dX4_init_47 md_X3_init mn_X4_38 im_X3_init rfl (ct_X3 (d := d - 1) (sh := (pv_sc.take 15)) (sh2 := (pv_sc.take 19)) (n := 15) (by decide +kernel) (by decide +kernel) (by decide) (by omega) (by decide +kernel)) (by omega) rfl rfl (Nat.le_of_ble_eq_true rfl) ⟨(pv_sc.take 20).drop 19, by decide +kernel⟩ ?_
  refine EV.putF dX4_init_50 (by decide +kernel) fl_4_39 rfl rfl rfl ⟨rfl, by decide +kernel, rfl⟩ ?_
  refine EV.eqH (h2 := hC_14) rfl ?_
  refine EV.aload_n dX4_init_53 rfl rfl ?_
  refine EV.sipush dX4_init_54 (by decide) (by decide) ?_
  refine EV.newaC4 (n := 19) (m := 400) (sh2 := (pv_sc.take 20)) (by decide +kernel) rfl (by decide +kernel) dX4_init_57 w_ar_byte (by decide) (by decide) (by decide) ⟨(pv_sc.take 20).drop 20, by decide +kernel⟩ ?_
  refine EV.eqH (h2 := hC_15) rfl ?_
  refine EV.putF dX4_init_59 (by decide +kernel) fl_4_43 rfl rfl rfl ⟨rfl, by decide +kernel, rfl⟩ ?_
  refine EV.eqH (h2 := hC_16) rfl ?_
  exact EV.vret dX4_init_62

theorem ct_hC_20 {d : Nat} (hd : 3 ≤ d) : CALL yX8_init cX8_init 2 none d (pv_sc.take 21) hC_18 [.inr (.inr 20)] (pv_sc.take 75) hC_55 none := by
  refine EV.call (own := RX8) (ini := true) rfl rfl (fun _ => rfl) ⟨(pv_sc.take 75).drop 21, by decide +kernel⟩ (Nat.le_of_ble_eq_true rfl) ?_
  refine EV.eqL (L2 := [some (.inr (.inr 20)), none]) rfl ?_
  refine EV.aload_n dX8_init_0 rfl rfl ?_
  refine EV.obj dX8_init_1 ml_X8_3 w_oii w_oic (by omega) (Nat.le_of_ble_eq_true rfl) ?_
  refine EV.aload_n dX8_init_4 rfl rfl ?_
  refine EV.iconst dX8_init_5 (by decide) (by decide) ?_
  refine EV.newaC5 (n := 21) (m := 4) (sh2 := (pv_sc.take 22)) (by decide +kernel) rfl (by decide +kernel) dX8_init_6 cl_X8_9 (by decide) (by decide) (by decide) ⟨(pv_sc.take 75).drop 22, by decide +kernel⟩ ?_
  refine EV.eqH (h2 := hC_19) rfl ?_
  refine EV.putF dX8_init_9 (by decide +kernel) fl_8_11 rfl rfl rfl ⟨rfl, by decide +kernel, rfl⟩ ?_
  refine EV.eqH (h2 := hC_20) rfl ?_
  refine EV.aload_n dX8_init_12 rfl rfl ?_
  refine EV.iconst dX8_init_13 (by decide) (by decide) ?_
  refine EV.newaC6 (n := 22) (m := 4) (sh2 := (pv_sc.take 23)) (by decide +kernel) rfl (by decide +kernel) dX8_init_14 cl_X8_17 (by decide) (by decide) (by decide) ⟨(pv_sc.take 75).drop 23, by decide +kernel⟩ ?_
  refine EV.eqH (h2 := hC_21) rfl ?_
  refine EV.putF dX8_init_17 (by decide +kernel) fl_8_19 rfl rfl rfl ⟨rfl, by decide +kernel, rfl⟩ ?_
  refine EV.eqH (h2 := hC_22) rfl ?_
  refine EV.aload_n dX8_init_20 rfl rfl ?_
  refine EV.newoC (n := 23) (sh2 := (pv_sc.take 24)) (ci := 2) (by decide +kernel) (by decide +kernel) dX8_init_21 (by decide) cl_X8_23 in_X2 ii_X2 (by decide) ⟨(pv_sc.take 75).drop 24, by decide +kernel⟩ ?_
  refine EV.eqH (h2 := hC_23) rfl ?_
  refine EV.dup dX8_init_24 rfl ?_
  refine EV.invI (As := []) (st := [.inr (.inr 23), .inr (.inr 20)]) (d1 := d - 1) (sh1 := (pv_sc.take 25)) (h1 := hC_24) (r1 := none) dX8_init_25 md_X2_init ml_X8_25 im_X2_init rfl (ct_X2 (d := d - 1) (sh := (pv_sc.take 24)) (sh2 := (pv_sc.take 25)) (n := 24) (by decide +kernel) (by decide +kernel) (by decide) (by omega) (by decide +kernel)) (by omega) rfl rfl (Nat.le_of_ble_eq_true rfl) ⟨(pv_sc.take 75).drop 25, by decide +kernel⟩ ?_
  refine EV.putF dX8_init_28 (by decide +kernel) fl_8_26 rfl rfl rfl ⟨rfl, by decide +kernel, rfl⟩ ?_
  refine EV.eqH (h2 := hC_25) rfl ?_
  refine EV.aload_n dX8_init_31 rfl rfl ?_
  refine EV.newoC (n := 25) (sh2 := (pv_sc.take 26)) (ci := 3) (by decide +kernel) (by decide +kernel) dX8_init_32 (by decide) cl_X8_30 in_X3 ii_X3 (by decide) ⟨(pv_sc.take 75).drop 26, by decide +kernel⟩ ?_
  refine EV.eqH (h2 := hC_26) rfl ?_
  refine EV.dup dX8_init_35 rfl ?_
  refine EV.invN (As := []) (st := [.inr (.inr 25), .inr (.inr 20)]) (d1 := d - 1) (sh1 := (pv_sc.take 30)) (h1 := hC_27) (r1 := none) dX8_init_36 md_X3_init mn_X8_32 im_X3_init rfl (ct_X3 (d := d - 1) (sh := (pv_sc.take 26)) (sh2 := (pv_sc.take 30)) (n := 26) (by decide +kernel) (by decide +kernel) (by decide) (by omega) (by decide +kernel)) (by omega) rfl rfl (Nat.le_of_ble_eq_true rfl) ⟨(pv_sc.take 75).drop 30, by decide +kernel⟩ ?_
  refine EV.putF dX8_init_39 (by decide +kernel) fl_8_33 rfl rfl rfl ⟨rfl, by decide +kernel, rfl⟩ ?_
  refine EV.eqH (h2 := hC_28) rfl ?_
  refine EV.aload_n dX8_init_42 rfl rfl ?_
  refine EV.newoC (n := 30) (sh2 := (pv_sc.take 31)) (ci := 7) (by decide +kernel) (by decide +kernel) dX8_init_43 (by decide) cl_X8_37 in_X7 ii_X7 (by decide) ⟨(pv_sc.take 75).drop 31, by decide +kernel⟩ ?_
  refine EV.eqH (h2 := hC_29) rfl ?_
  refine EV.dup dX8_init_46 rfl ?_
  refine EV.invN (As := []) (st := [.inr (.inr 30), .inr (.inr 20)]) (d1 := d - 1) (sh1 := (pv_sc.take 35)) (h1 := hC_30) (r1 := none) dX8_init_47 md_X7_init mn_X8_39 im_X7_init rfl (ct_X7 (d := d - 1) (sh := (pv_sc.take 31)) (sh2 := (pv_sc.take 35)) (n := 31) (by decide +kernel) (by decide +kernel) (by decide) (by omega) (by decide +kernel)) (by omega) rfl rfl (Nat.le_of_ble_eq_true rfl) ⟨(pv_sc.take 75).drop 35, by decide +kernel⟩ ?_
  refine EV.putF dX8_init_50 (by decide +kernel) fl_8_40 rfl rfl rfl ⟨rfl, by decide +kernel, rfl⟩ ?_
  refine EV.eqH (h2 := hC_31) rfl ?_
  refine EV.iconst dX8_init_53 (by decide) (by decide) ?_
  refine EV.istore_n dX8_init_54 rfl (by decide) ?_
  refine EV.eqL (L2 := [some (.inr (.inr 20)), some (.inl (0))]) rfl ?_
  refine EV.iload_n dX8_init_55 rfl rfl ?_
  refine EV.iconst dX8_init_56 (by decide) (by decide) ?_
  refine EV.icmp_ge (tgt := 79) dX8_init_57 (by decide) (fun q => absurd q (by decide)) (fun _ => ?_)
  refine EV.aload_n dX8_init_60 rfl rfl ?_
  refine EV.getV (v := 21) dX8_init_61 (by decide +kernel) fl_8_11 rfl (by decide +kernel) ?_
  refine EV.iload_n dX8_init_64 rfl rfl ?_
  refine EV.newoC (n := 35) (sh2 := (pv_sc.take 36)) (ci := 5) (by decide +kernel) (by decide +kernel) dX8_init_65 (by decide) cl_X8_9 in_X5 ii_X5 (by decide) ⟨(pv_sc.take 75).drop 36, by decide +kernel⟩ ?_
  refine EV.eqH (h2 := hC_32) rfl ?_
  refine EV.dup dX8_init_68 rfl ?_
  refine EV.invN (As := []) (st := [.inr (.inr 35), .inl (0), .inr (.inr 21)]) (d1 := d - 1) (sh1 := (pv_sc.take 41)) (h1 := hC_33) (r1 := none) dX8_init_69 md_X5_init mn_X8_44 im_X5_init rfl (ct_X5 (d := d - 1) (sh := (pv_sc.take 36)) (sh2 := (pv_sc.take 41)) (n := 36) (by decide +kernel) (by decide +kernel) (by decide) (by omega) (by decide +kernel)) (by omega) rfl rfl (Nat.le_of_ble_eq_true rfl) ⟨(pv_sc.take 75).drop 41, by decide +kernel⟩ ?_
  refine EV.aast (a := 5) (ci := 5) (n := 4) dX8_init_72 (by decide +kernel) (by decide) (by decide +kernel) (by decide) (by decide) ?_
  refine EV.eqH (h2 := hC_34) rfl ?_
  refine EV.iinc dX8_init_73 rfl (by decide) ?_
  refine EV.eqL (L2 := [some (.inr (.inr 20)), some (.inl (1))]) (by decide +kernel) ?_
  refine EV.goto (tgt := 55) dX8_init_76 (by decide) ?_
  refine EV.iload_n dX8_init_55 rfl rfl ?_
  refine EV.iconst dX8_init_56 (by decide) (by decide) ?_
  refine EV.icmp_ge (tgt := 79) dX8_init_57 (by decide) (fun q => absurd q (by decide)) (fun _ => ?_)
  refine EV.aload_n dX8_init_60 rfl rfl ?_
  refine EV.getV (v := 21) dX8_init_61 (by decide +kernel) fl_8_11 rfl (by decide +kernel) ?_
  refine EV.iload_n dX8_init_64 rfl rfl ?_
  refine EV.newoC (n := 41) (sh2 := (pv_sc.take 42)) (ci := 5) (by decide +kernel) (by decide +kernel) dX8_init_65 (by decide) cl_X8_9 in_X5 ii_X5 (by decide) ⟨(pv_sc.take 75).drop 42, by decide +kernel⟩ ?_
  refine EV.eqH (h2 := hC_35) rfl ?_
  refine EV.dup dX8_init_68 rfl ?_
  refine EV.invN (As := []) (st := [.inr (.inr 41), .inl (1), .inr (.inr 21)]) (d1 := d - 1) (sh1 := (pv_sc.take 47)) (h1 := hC_36) (r1 := none) dX8_init_69 md_X5_init mn_X8_44 im_X5_init rfl (ct_X5 (d := d - 1) (sh := (pv_sc.take 42)) (sh2 := (pv_sc.take 47)) (n := 42) (by decide +kernel) (by decide +kernel) (by decide) (by omega) (by decide +kernel)) (by omega) rfl rfl (Nat.le_of_ble_eq_true rfl) ⟨(pv_sc.take 75).drop 47, by decide +kernel⟩ ?_
  refine EV.aast (a := 5) (ci := 5) (n := 4) dX8_init_72 (by decide +kernel) (by decide) (by decide +kernel) (by decide) (by decide) ?_
  refine EV.eqH (h2 := hC_37) rfl ?_
  refine EV.iinc dX8_init_73 rfl (by decide) ?_
  refine EV.eqL (L2 := [some (.inr (.inr 20)), some (.inl (2))]) (by decide +kernel) ?_
  refine EV.goto (tgt := 55) dX8_init_76 (by decide) ?_
  refine EV.iload_n dX8_init_55 rfl rfl ?_
  refine EV.iconst dX8_init_56 (by decide) (by decide) ?_
  refine EV.icmp_ge (tgt := 79) dX8_init_57 (by decide) (fun q => absurd q (by decide)) (fun _ => ?_)
  refine EV.aload_n dX8_init_60 rfl rfl ?_
  refine EV.getV (v := 21) dX8_init_61 (by decide +kernel) fl_8_11 rfl (by decide +kernel) ?_
  refine EV.iload_n dX8_init_64 rfl rfl ?_
  refine EV.newoC (n := 47) (sh2 := (pv_sc.take 48)) (ci := 5) (by decide +kernel) (by decide +kernel) dX8_init_65 (by decide) cl_X8_9 in_X5 ii_X5 (by decide) ⟨(pv_sc.take 75).drop 48, by decide +kernel⟩ ?_
  refine EV.eqH (h2 := hC_38) rfl ?_
  refine EV.dup dX8_init_68 rfl ?_
  refine EV.invN (As := []) (st := [.inr (.inr 47), .inl (2), .inr (.inr 21)]) (d1 := d - 1) (sh1 := (pv_sc.take 53)) (h1 := hC_39) (r1 := none) dX8_init_69 md_X5_init mn_X8_44 im_X5_init rfl (ct_X5 (d := d - 1) (sh := (pv_sc.take 48)) (sh2 := (pv_sc.take 53)) (n := 48) (by decide +kernel) (by decide +kernel) (by decide) (by omega) (by decide +kernel)) (by omega) rfl rfl (Nat.le_of_ble_eq_true rfl) ⟨(pv_sc.take 75).drop 53, by decide +kernel⟩ ?_
  refine EV.aast (a := 5) (ci := 5) (n := 4) dX8_init_72 (by decide +kernel) (by decide) (by decide +kernel) (by decide) (by decide) ?_
  refine EV.eqH (h2 := hC_40) rfl ?_
  refine EV.iinc dX8_init_73 rfl (by decide) ?_
  refine EV.eqL (L2 := [some (.inr (.inr 20)), some (.inl (3))]) (by decide +kernel) ?_
  refine EV.goto (tgt := 55) dX8_init_76 (by decide) ?_
  refine EV.iload_n dX8_init_55 rfl rfl ?_
  refine EV.iconst dX8_init_56 (by decide) (by decide) ?_
  refine EV.icmp_ge (tgt := 79) dX8_init_57 (by decide) (fun q => absurd q (by decide)) (fun _ => ?_)
  refine EV.aload_n dX8_init_60 rfl rfl ?_
  refine EV.getV (v := 21) dX8_init_61 (by decide +kernel) fl_8_11 rfl (by decide +kernel) ?_
  refine EV.iload_n dX8_init_64 rfl rfl ?_
  refine EV.newoC (n := 53) (sh2 := (pv_sc.take 54)) (ci := 5) (by decide +kernel) (by decide +kernel) dX8_init_65 (by decide) cl_X8_9 in_X5 ii_X5 (by decide) ⟨(pv_sc.take 75).drop 54, by decide +kernel⟩ ?_
  refine EV.eqH (h2 := hC_41) rfl ?_
  refine EV.dup dX8_init_68 rfl ?_
  refine EV.invN (As := []) (st := [.inr (.inr 53), .inl (3), .inr (.inr 21)]) (d1 := d - 1) (sh1 := (pv_sc.take 59)) (h1 := hC_42) (r1 := none) dX8_init_69 md_X5_init mn_X8_44 im_X5_init rfl (ct_X5 (d := d - 1) (sh := (pv_sc.take 54)) (sh2 := (pv_sc.take 59)) (n := 54) (by decide +kernel) (by decide +kernel) (by decide) (by omega) (by decide +kernel)) (by omega) rfl rfl (Nat.le_of_ble_eq_true rfl) ⟨(pv_sc.take 75).drop 59, by decide +kernel⟩ ?_
  refine EV.aast (a := 5) (ci := 5) (n := 4) dX8_init_72 (by decide +kernel) (by decide) (by decide +kernel) (by decide) (by decide) ?_
  refine EV.eqH (h2 := hC_43) rfl ?_
  refine EV.iinc dX8_init_73 rfl (by decide) ?_
  refine EV.eqL (L2 := [some (.inr (.inr 20)), some (.inl (4))]) (by decide +kernel) ?_
  refine EV.goto (tgt := 55) dX8_init_76 (by decide) ?_
  refine EV.iload_n dX8_init_55 rfl rfl ?_
  refine EV.iconst dX8_init_56 (by decide) (by decide) ?_
  refine EV.icmp_ge (tgt := 79) dX8_init_57 (by decide) (fun _ => ?_) (fun q => absurd (by decide) q)
  refine EV.iconst dX8_init_79 (by decide) (by decide) ?_
  refine EV.istore_n dX8_init_80 rfl (by decide) ?_
  refine EV.eqL (L2 := [some (.inr (.inr 20)), some (.inl (0))]) rfl ?_
  refine EV.iload_n dX8_init_81 rfl rfl ?_
  refine EV.iconst dX8_init_82 (by decide) (by decide) ?_
  refine EV.icmp_ge (tgt := 105) dX8_init_83 (by decide) (fun q => absurd q (by decide)) (fun _ => ?_)
  refine EV.aload_n dX8_init_86 rfl rfl ?_
  refine EV.getV (v := 22) dX8_init_87 (by decide +kernel) fl_8_19 rfl (by decide +kernel) ?_
  refine EV.iload_n dX8_init_90 rfl rfl ?_
  refine EV.newoC (n := 59) (sh2 := (pv_sc.take 60)) (ci := 0) (by decide +kernel) (by decide +kernel) dX8_init_91 (by decide) cl_X8_17 in_X0 ii_X0 (by decide) ⟨(pv_sc.take 75).drop 60, by decide +kernel⟩ ?_
  refine EV.eqH (h2 := hC_44) rfl ?_
  refine EV.dup dX8_init_94 rfl ?_
  refine EV.invN (As := []) (st := [.inr (.inr 59), .inl (0), .inr (.inr 22)]) (d1 := d - 1) (sh1 := (pv_sc.take 63)) (h1 := hC_45) (r1 := none) dX8_init_95 md_X0_init mn_X8_45 im_X0_init rfl (ct_X0 (d := d - 1) (sh := (pv_sc.take 60)) (sh2 := (pv_sc.take 63)) (n := 60) (by decide +kernel) (by decide +kernel) (by decide) (by omega) (by decide +kernel)) (by omega) rfl rfl (Nat.le_of_ble_eq_true rfl) ⟨(pv_sc.take 75).drop 63, by decide +kernel⟩ ?_
  refine EV.aast (a := 6) (ci := 0) (n := 4) dX8_init_98 (by decide +kernel) (by decide) (by decide +kernel) (by decide) (by decide) ?_
  refine EV.eqH (h2 := hC_46) rfl ?_
  refine EV.iinc dX8_init_99 rfl (by decide) ?_
  refine EV.eqL (L2 := [some (.inr (.inr 20)), some (.inl (1))]) (by decide +kernel) ?_
  refine EV.goto (tgt := 81) dX8_init_102 (by decide) ?_
  refine EV.iload_n dX8_init_81 rfl rfl ?_
  refine EV.iconst dX8_init_82 (by decide) (by decide) ?_
  refine EV.icmp_ge (tgt := 105) dX8_init_83 (by decide) (fun q => absurd q (by decide)) (fun _ => ?_)
  refine EV.aload_n dX8_init_86 rfl rfl ?_
  refine EV.getV (v := 22) dX8_init_87 (by decide +kernel) fl_8_19 rfl (by decide +kernel) ?_
  refine EV.iload_n dX8_init_90 rfl rfl ?_
  refine EV.newoC (n := 63) (sh2 := (pv_sc.take 64)) (ci := 0) (by decide +kernel) (by decide +kernel) dX8_init_91 (by decide) cl_X8_17 in_X0 ii_X0 (by decide) ⟨(pv_sc.take 75).drop 64, by decide +kernel⟩ ?_
  refine EV.eqH (h2 := hC_47) rfl ?_
  refine EV.dup dX8_init_94 rfl ?_
  refine EV.invN (As := []) (st := [.inr (.inr 63), .inl (1), .inr (.inr 22)]) (d1 := d - 1) (sh1 := (pv_sc.take 67)) (h1 := hC_48) (r1 := none) dX8_init_95 md_X0_init mn_X8_45 im_X0_init rfl (ct_X0 (d := d - 1) (sh := (pv_sc.take 64)) (sh2 := (pv_sc.take 67)) (n := 64) (by decide +kernel) (by decide +kernel) (by decide) (by omega) (by decide +kernel)) (by omega) rfl rfl (Nat.le_of_ble_eq_true rfl) ⟨(pv_sc.take 75).drop 67, by decide +kernel⟩ ?_
  refine EV.aast (a := 6) (ci := 0) (n := 4) dX8_init_98 (by decide +kernel) (by decide) (by decide +kernel) (by decide) (by decide) ?_
  refine EV.eqH (h2 := hC_49) rfl ?_
  refine EV.iinc dX8_init_99 rfl (by decide) ?_
  refine EV.eqL (L2 := [some (.inr (.inr 20)), some (.inl (2))]) (by decide +kernel) ?_
  refine EV.goto (tgt := 81) dX8_init_102 (by decide) ?_
  refine EV.iload_n dX8_init_81 rfl rfl ?_
  refine EV.iconst dX8_init_82 (by decide) (by decide) ?_
  refine EV.icmp_ge (tgt := 105) dX8_init_83 (by decide) (fun q => absurd q (by decide)) (fun _ => ?_)
  refine EV.aload_n dX8_init_86 rfl rfl ?_
  refine EV.getV (v := 22) dX8_init_87 (by decide +kernel) fl_8_19 rfl (by decide +kernel) ?_
  refine EV.iload_n dX8_init_90 rfl rfl ?_
  refine EV.newoC (n := 67) (sh2 := (pv_sc.take 68)) (ci := 0) (by decide +kernel) (by decide +kernel) dX8_init_91 (by decide) cl_X8_17 in_X0 ii_X0 (by decide) ⟨(pv_sc.take 75).drop 68, by decide +kernel⟩ ?_
  refine EV.eqH (h2 := hC_50) rfl ?_
  refine EV.dup dX8_init_94 rfl ?_
  refine EV.invN (As := []) (st := [.inr (.inr 67), .inl (2), .inr (.inr 22)]) (d1 := d - 1) (sh1 := (pv_sc.take 71)) (h1 := hC_51) (r1 := none) dX8_init_95 md_X0_init mn_X8_45 im_X0_init rfl (ct_X0 (d := d - 1) (sh := (pv_sc.take 68)) (sh2 := (pv_sc.take 71)) (n := 68) (by decide +kernel) (by decide +kernel) (by decide) (by omega) (by decide +kernel)) (by omega) rfl rfl (Nat.le_of_ble_eq_true rfl) ⟨(pv_sc.take 75).drop 71, by decide +kernel⟩ ?_
  refine EV.aast (a := 6) (ci := 0) (n := 4) dX8_init_98 (by decide +kernel) (by decide) (by decide +kernel) (by decide) (by decide) ?_
  refine EV.eqH (h2 := hC_52) rfl ?_
  refine EV.iinc dX8_init_99 rfl (by decide) ?_
  refine EV.eqL (L2 := [some (.inr (.inr 20)), some (.inl (3))]) (by decide +kernel) ?_
  refine EV.goto (tgt := 81) dX8_init_102 (by decide) ?_
  refine EV.iload_n dX8_init_81 rfl rfl ?_
  refine EV.iconst dX8_init_82 (by decide) (by decide) ?_
  refine EV.icmp_ge (tgt := 105) dX8_init_83 (by decide) (fun q => absurd q (by decide)) (fun _ => ?_)
  refine EV.aload_n dX8_init_86 rfl rfl ?_
  refine EV.getV (v := 22) dX8_init_87 (by decide +kernel) fl_8_19 rfl (by decide +kernel) ?_
  refine EV.iload_n dX8_init_90 rfl rfl ?_
  refine EV.newoC (n := 71) (sh2 := (pv_sc.take 72)) (ci := 0) (by decide +kernel) (by decide +kernel) dX8_init_91 (by decide) cl_X8_17 in_X0 ii_X0 (by decide) ⟨(pv_sc.take 75).drop 72, by decide +kernel⟩ ?_
  refine EV.eqH (h2 := hC_53) rfl ?_
  refine EV.dup dX8_init_94 rfl ?_
  refine EV.invN (As := []) (st := [.inr (.inr 71), .inl (3), .inr (.inr 22)]) (d1 := d - 1) (sh1 := (pv_sc.take 75)) (h1 := hC_54) (r1 := none) dX8_init_95 md_X0_init mn_X8_45 im_X0_init rfl (ct_X0 (d := d - 1) (sh := (pv_sc.take 72)) (sh2 := (pv_sc.take 75)) (n := 72) (by decide +kernel) (by decide +kernel) (by decide) (by omega) (by decide +kernel)) (by omega) rfl rfl (Nat.le_of_ble_eq_true rfl) ⟨(pv_sc.take 75).drop 75, by decide +kernel⟩ ?_
  refine EV.aast (a := 6) (ci := 0) (n := 4) dX8_init_98 (by decide +kernel) (by decide) (by decide +kernel) (by decide) (by decide) ?_
  refine EV.eqH (h2 := hC_55) rfl ?_
  refine EV.iinc dX8_init_99 rfl (by decide) ?_
  refine EV.eqL (L2 := [some (.inr (.inr 20)), some (.inl (4))]) (by decide +kernel) ?_
  refine EV.goto (tgt := 81) dX8_init_102 (by decide) ?_
  refine EV.iload_n dX8_init_81 rfl rfl ?_
  refine EV.iconst dX8_init_82 (by decide) (by decide) ?_
  refine EV.icmp_ge (tgt := 105) dX8_init_83 (by decide) (fun _ => ?_) (fun q => absurd (by decide) q)
  exact EV.vret dX8_init_105

theorem ct_hC_78 {d : Nat} (hd : 3 ≤ d) : CALL yX1_init cX1_init 1 none d (pv_sc.take 79) hC_63 [.inr (.inr 78)] (pv_sc.take 99) hC_86 none := by
  refine EV.call (own := RX1) (ini := true) rfl rfl (fun _ => rfl) ⟨(pv_sc.take 99).drop 79, by decide +kernel⟩ (Nat.le_of_ble_eq_true rfl) ?_
  refine EV.eqL (L2 := [some (.inr (.inr 78))]) rfl ?_
  refine EV.aload_n dX1_init_0 rfl rfl ?_
  refine EV.obj dX1_init_1 ml_X1_3 w_oii w_oic (by omega) (Nat.le_of_ble_eq_true rfl) ?_
  refine EV.aload_n dX1_init_4 rfl rfl ?_
  refine EV.newoC (n := 79) (sh2 := (pv_sc.take 80)) (ci := 7) (by decide +kernel) (by decide +kernel) dX1_init_5 (by decide) cl_X1_9 in_X7 ii_X7 (by decide) ⟨(pv_sc.take 99).drop 80, by decide +kernel⟩ ?_
  refine EV.eqH (h2 := hC_64) rfl ?_
  refine EV.dup dX1_init_8 rfl ?_
  refine EV.invN (As := []) (st := [.inr (.inr 79), .inr (.inr 78)]) (d1 := d - 1) (sh1 := (pv_sc.take 84)) (h1 := hC_65) (r1 := none) dX1_init_9 md_X7_init mn_X1_11 im_X7_init rfl (ct_X7 (d := d - 1) (sh := (pv_sc.take 80)) (sh2 := (pv_sc.take 84)) (n := 80) (by decide +kernel) (by decide +kernel) (by decide) (by omega) (by decide +kernel)) (by omega) rfl rfl (Nat.le_of_ble_eq_true rfl) ⟨(pv_sc.take 99).drop 84, by decide +kernel⟩ ?_
  refine EV.putF dX1_init_12 (by decide +kernel) fl_1_12 rfl rfl rfl ⟨rfl, by decide +kernel, rfl⟩ ?_
  refine EV.eqH (h2 := hC_66) rfl ?_
  refine EV.aload_n dX1_init_15 rfl rfl ?_
  refine EV.newoC (n := 84) (sh2 := (pv_sc.take 85)) (ci := 5) (by decide +kernel) (by decide +kernel) dX1_init_16 (by decide) cl_X1_18 in_X5 ii_X5 (by decide) ⟨(pv_sc.take 99).drop 85, by decide +kernel⟩ ?_
  refine EV.eqH (h2 := hC_67) rfl ?_
  refine EV.dup dX1_init_19 rfl ?_
  refine EV.invN (As := []) (st := [.inr (.inr 84), .inr (.inr 78)]) (d1 := d - 1) (sh1 := (pv_sc.take 90)) (h1 := hC_68) (r1 := none) dX1_init_20 md_X5_init mn_X1_20 im_X5_init rfl (ct_X5 (d := d - 1) (sh := (pv_sc.take 85)) (sh2 := (pv_sc.take 90)) (n := 85) (by decide +kernel) (by decide +kernel) (by decide) (by omega) (by decide +kernel)) (by omega) rfl rfl (Nat.le_of_ble_eq_true rfl) ⟨(pv_sc.take 99).drop 90, by decide +kernel⟩ ?_
  refine EV.put dX1_init_23 (by decide +kernel) fl_1_21 rfl ⟨rfl, by decide +kernel, rfl⟩ ?_
  refine EV.eqH (h2 := hC_69) rfl ?_
  refine EV.aload_n dX1_init_26 rfl rfl ?_
  refine EV.newoC (n := 90) (sh2 := (pv_sc.take 91)) (ci := 2) (by decide +kernel) (by decide +kernel) dX1_init_27 (by decide) cl_X1_25 in_X2 ii_X2 (by decide) ⟨(pv_sc.take 99).drop 91, by decide +kernel⟩ ?_
  refine EV.eqH (h2 := hC_70) rfl ?_
  refine EV.dup dX1_init_30 rfl ?_
  refine EV.invI (As := []) (st := [.inr (.inr 90), .inr (.inr 78)]) (d1 := d - 1) (sh1 := (pv_sc.take 92)) (h1 := hC_71) (r1 := none) dX1_init_31 md_X2_init ml_X1_27 im_X2_init rfl (ct_X2 (d := d - 1) (sh := (pv_sc.take 91)) (sh2 := (pv_sc.take 92)) (n := 91) (by decide +kernel) (by decide +kernel) (by decide) (by omega) (by decide +kernel)) (by omega) rfl rfl (Nat.le_of_ble_eq_true rfl) ⟨(pv_sc.take 99).drop 92, by decide +kernel⟩ ?_
  refine EV.put dX1_init_34 (by decide +kernel) fl_1_28 rfl ⟨rfl, by decide +kernel, rfl⟩ ?_
  refine EV.eqH (h2 := hC_72) rfl ?_
  refine EV.aload_n dX1_init_37 rfl rfl ?_
  refine EV.bipush dX1_init_38 (by decide) (by decide) ?_
  refine EV.newaC1 (n := 92) (m := 60) (sh2 := (pv_sc.take 93)) (by decide +kernel) rfl (by decide +kernel) dX1_init_40 w_ar_int (by decide) (by decide) (by decide) ⟨(pv_sc.take 99).drop 93, by decide +kernel⟩ ?_
  refine EV.eqH (h2 := hC_73) rfl ?_
  refine EV.putF dX1_init_42 (by decide +kernel) fl_1_32 rfl rfl rfl ⟨rfl, by decide +kernel, rfl⟩ ?_
  refine EV.eqH (h2 := hC_74) rfl ?_
  refine EV.aload_n dX1_init_45 rfl rfl ?_
  refine EV.bipush dX1_init_46 (by decide) (by decide) ?_
  refine EV.newaC1 (n := 93) (m := 60) (sh2 := (pv_sc.take 94)) (by decide +kernel) rfl (by decide +kernel) dX1_init_48 w_ar_int (by decide) (by decide) (by decide) ⟨(pv_sc.take 99).drop 94, by decide +kernel⟩ ?_
  refine EV.eqH (h2 := hC_75) rfl ?_
  refine EV.putF dX1_init_50 (by decide +kernel) fl_1_36 rfl rfl rfl ⟨rfl, by decide +kernel, rfl⟩ ?_
  refine EV.eqH (h2 := hC_76) rfl ?_
  refine EV.aload_n dX1_init_53 rfl rfl ?_
  refine EV.bipush dX1_init_54 (by decide) (by decide) ?_
  refine EV.newaC1 (n := 94) (m := 60) (sh2 := (pv_sc.take 95)) (by decide +kernel) rfl (by decide +kernel) dX1_init_56 w_ar_int (by decide) (by decide) (by decide) ⟨(pv_sc.take 99).drop 95, by decide +kernel⟩ ?_
  refine EV.eqH (h2 := hC_77) rfl ?_
  refine EV.putF dX1_init_58 (by decide +kernel) fl_1_39 rfl rfl rfl ⟨rfl, by decide +kernel, rfl⟩ ?_
  refine EV.eqH (h2 := hC_78) rfl ?_
  refine EV.aload_n dX1_init_61 rfl rfl ?_
  refine EV.bipush dX1_init_62 (by decide) (by decide) ?_
  refine EV.newaC1 (n := 95) (m := 60) (sh2 := (pv_sc.take 96)) (by decide +kernel) rfl (by decide +kernel) dX1_init_64 w_ar_int (by decide) (by decide) (by decide) ⟨(pv_sc.take 99).drop 96, by decide +kernel⟩ ?_
  refine EV.eqH (h2 := hC_79) rfl ?_
  refine EV.putF dX1_init_66 (by decide +kernel) fl_1_42 rfl rfl rfl ⟨rfl, by decide +kernel, rfl⟩ ?_
  refine EV.eqH (h2 := hC_80) rfl ?_
  refine EV.aload_n dX1_init_69 rfl rfl ?_
  refine EV.sipush dX1_init_70 (by decide) (by decide) ?_
  refine EV.newaC1 (n := 96) (m := 200) (sh2 := (pv_sc.take 97)) (by decide +kernel) rfl (by decide +kernel) dX1_init_73 w_ar_int (by decide) (by decide) (by decide) ⟨(pv_sc.take 99).drop 97, by decide +kernel⟩ ?_
  refine EV.eqH (h2 := hC_81) rfl ?_
  refine EV.putF dX1_init_75 (by decide +kernel) fl_1_45 rfl rfl rfl ⟨rfl, by decide +kernel, rfl⟩ ?_
  refine EV.eqH (h2 := hC_82) rfl ?_
  refine EV.aload_n dX1_init_78 rfl rfl ?_
  refine EV.sipush dX1_init_79 (by decide) (by decide) ?_
  refine EV.newaC1 (n := 97) (m := 200) (sh2 := (pv_sc.take 98)) (by decide +kernel) rfl (by decide +kernel) dX1_init_82 w_ar_int (by decide) (by decide) (by decide) ⟨(pv_sc.take 99).drop 98, by decide +kernel⟩ ?_
  refine EV.eqH (h2 := hC_83) rfl ?_
  refine EV.putF dX1_init_84 (by decide +kernel) fl_1_48 rfl rfl rfl ⟨rfl, by decide +kernel, rfl⟩ ?_
  refine EV.eqH (h2 := hC_84) rfl ?_
  refine EV.aload_n dX1_init_87 rfl rfl ?_
  refine EV.sipush dX1_init_88 (by decide) (by decide) ?_
  refine EV.newaC1 (n := 98) (m := 200) (sh2 := (pv_sc.take 99)) (by decide +kernel) rfl (by decide +kernel) dX1_init_91 w_ar_int (by decide) (by decide) (by decide) ⟨(pv_sc.take 99).drop 99, by decide +kernel⟩ ?_
  refine EV.eqH (h2 := hC_85) rfl ?_
  refine EV.putF dX1_init_93 (by decide +kernel) fl_1_51 rfl rfl rfl ⟨rfl, by decide +kernel, rfl⟩ ?_
  refine EV.eqH (h2 := hC_86) rfl ?_
  exact EV.vret dX1_init_96

theorem ct_hC_106 {d : Nat} (hd : 3 ≤ d) : CALL yX8_init cX8_init 2 none d (pv_sc.take 107) hC_93 [.inr (.inr 106)] (pv_sc.take 161) hC_130 none := by
  refine EV.call (own := RX8) (ini := true) rfl rfl (fun _ => rfl) ⟨(pv_sc.take 161).drop 107, by decide +kernel⟩ (Nat.le_of_ble_eq_true rfl) ?_
  refine EV.eqL (L2 := [some (.inr (.inr 106)), none]) rfl ?_
  refine EV.aload_n dX8_init_0 rfl rfl ?_
  refine EV.obj dX8_init_1 ml_X8_3 w_oii w_oic (by omega) (Nat.le_of_ble_eq_true rfl) ?_
  refine EV.aload_n dX8_init_4 rfl rfl ?_
  refine EV.iconst dX8_init_5 (by decide) (by decide) ?_
  refine EV.newaC5 (n := 107) (m := 4) (sh2 := (pv_sc.take 108)) (by decide +kernel) rfl (by decide +kernel) dX8_init_6 cl_X8_9 (by decide) (by decide) (by decide) ⟨(pv_sc.take 161).drop 108, by decide +kernel⟩ ?_
  refine EV.eqH (h2 := hC_94) rfl ?_
  refine EV.putF dX8_init_9 (by decide +kernel) fl_8_11 rfl rfl rfl ⟨rfl, by decide +kernel, rfl⟩ ?_
  refine EV.eqH (h2 := hC_95) rfl ?_
  refine EV.aload_n dX8_init_12 rfl rfl ?_
  refine EV.iconst dX8_init_13 (by decide) (by decide) ?_
  refine EV.newaC6 (n := 108) (m := 4) (sh2 := (pv_sc.take 109)) (by decide +kernel) rfl (by decide +kernel) dX8_init_14 cl_X8_17 (by decide) (by decide) (by decide) ⟨(pv_sc.take 161).drop 109, by decide +kernel⟩ ?_
  refine EV.eqH (h2 := hC_96) rfl ?_
  refine EV.putF dX8_init_17 (by decide +kernel) fl_8_19 rfl rfl rfl ⟨rfl, by decide +kernel, rfl⟩ ?_
  refine EV.eqH (h2 := hC_97) rfl ?_
  refine EV.aload_n dX8_init_20 rfl rfl ?_
  refine EV.newoC (n := 109) (sh2 := (pv_sc.take 110)) (ci := 2) (by decide +kernel) (by decide +kernel) dX8_init_21 (by decide) cl_X8_23 in_X2 ii_X2 (by decide) ⟨(pv_sc.take 161).drop 110, by decide +kernel⟩ ?_
  refine EV.eqH (h2 := hC_98) rfl ?_
  refine EV.dup dX8_init_24 rfl ?_
  refine EV.invI (As := []) (st := [.inr (.inr 109), .inr (.inr 106)]) (d1 := d - 1) (sh1 := (pv_sc.take 111)) (h1 := hC_99) (r1 := none) dX8_init_25 md_X2_init ml_X8_25 im_X2_init rfl (ct_X2 (d := d - 1) (sh := (pv_sc.take 110)) (sh2 := (pv_sc.take 111)) (n := 110) (by decide +kernel) (by decide +kernel) (by decide) (by omega) (by decide +kernel)) (by omega) rfl rfl (Nat.le_of_ble_eq_true rfl) ⟨(pv_sc.take 161).drop 111, by decide +kernel⟩ ?_
  refine EV.putF dX8_init_28 (by decide +kernel) fl_8_26 rfl rfl rfl ⟨rfl, by decide +kernel, rfl⟩ ?_
  refine EV.eqH (h2 := hC_100) rfl ?_
  refine EV.aload_n dX8_init_31 rfl rfl ?_
  refine EV.newoC (n := 111) (sh2 := (pv_sc.take 112)) (ci := 3) (by decide +kernel) (by decide +kernel) dX8_init_32 (by decide) cl_X8_30 in_X3 ii_X3 (by decide) ⟨(pv_sc.take 161).drop 112, by decide +kernel⟩ ?_
  refine EV.eqH (h2 := hC_101) rfl ?_
  refine EV.dup dX8_init_35 rfl ?_
  refine EV.invN (As := []) (st := [.inr (.inr 111), .inr (.inr 106)]) (d1 := d - 1) (sh1 := (pv_sc.take 116)) (h1 := hC_102) (r1 := none) dX8_init_36 md_X3_init mn_X8_32 im_X3_init rfl (ct_X3 (d := d - 1) (sh := (pv_sc.take 112)) (sh2 := (pv_sc.take 116)) (n := 112) (by decide +kernel) (by decide +kernel) (by decide) (by omega) (by decide +kernel)) (by omega) rfl rfl (Nat.le_of_ble_eq_true rfl) ⟨(pv_sc.take 161).drop 116, by decide +kernel⟩ ?_
  refine EV.putF dX8_init_39 (by decide +kernel) fl_8_33 rfl rfl rfl ⟨rfl, by decide +kernel, rfl⟩ ?_
  refine EV.eqH (h2 := hC_103) rfl ?_
  refine EV.aload_n dX8_init_42 rfl rfl ?_
  refine EV.newoC (n := 116) (sh2 := (pv_sc.take 117)) (ci := 7) (by decide +kernel) (by decide +kernel) dX8_init_43 (by decide) cl_X8_37 in_X7 ii_X7 (by decide) ⟨(pv_sc.take 161).drop 117, by decide +kernel⟩ ?_
  refine EV.eqH (h2 := hC_104) rfl ?_
  refine EV.dup dX8_init_46 rfl ?_
  refine EV.invN (As := []) (st := [.inr (.inr 116), .inr (.inr 106)]) (d1 := d - 1) (sh1 := (pv_sc.take 121)) (h1 := hC_105) (r1 := none) dX8_init_47 md_X7_init mn_X8_39 im_X7_init rfl (ct_X7 (d := d - 1) (sh := (pv_sc.take 117)) (sh2 := (pv_sc.take 121)) (n := 117) (by decide +kernel) (by decide +kernel) (by decide) (by omega) (by decide +kernel)) (by omega) rfl rfl (Nat.le_of_ble_eq_true rfl) ⟨(pv_sc.take 161).drop 121, by decide +kernel⟩ ?_
  refine EV.putF dX8_init_50 (by decide +kernel) fl_8_40 rfl rfl rfl ⟨rfl, by decide +kernel, rfl⟩ ?_
  refine EV.eqH (h2 := hC_106) rfl ?_
  refine EV.iconst dX8_init_53 (by decide) (by decide) ?_
  refine EV.istore_n dX8_init_54 rfl (by decide) ?_
  refine EV.eqL (L2 := [some (.inr (.inr 106)), some (.inl (0))]) rfl ?_
  refine EV.iload_n dX8_init_55 rfl rfl ?_
  refine EV.iconst dX8_init_56 (by decide) (by decide) ?_
  refine EV.icmp_ge (tgt := 79) dX8_init_57 (by decide) (fun q => absurd q (by decide)) (fun _ => ?_)
  refine EV.aload_n dX8_init_60 rfl rfl ?_
  refine EV.getV (v := 107) dX8_init_61 (by decide +kernel) fl_8_11 rfl (by decide +kernel) ?_
  refine EV.iload_n dX8_init_64 rfl rfl ?_
  refine EV.newoC (n := 121) (sh2 := (pv_sc.take 122)) (ci := 5) (by decide +kernel) (by decide +kernel) dX8_init_65 (by decide) cl_X8_9 in_X5 ii_X5 (by decide) ⟨(pv_sc.take 161).drop 122, by decide +kernel⟩ ?_
  refine EV.eqH (h2 := hC_107) rfl ?_
  refine EV.dup dX8_init_68 rfl ?_
  refine EV.invN (As := []) (st := [.inr (.inr 121), .inl (0), .inr (.inr 107)]) (d1 := d - 1) (sh1 := (pv_sc.take 127)) (h1 := hC_108) (r1 := none) dX8_init_69 md_X5_init mn_X8_44 im_X5_init rfl (ct_X5 (d := d - 1) (sh := (pv_sc.take 122)) (sh2 := (pv_sc.take 127)) (n := 122) (by decide +kernel) (by decide +kernel) (by decide) (by omega) (by decide +kernel)) (by omega) rfl rfl (Nat.le_of_ble_eq_true rfl) ⟨(pv_sc.take 161).drop 127, by decide +kernel⟩ ?_
  refine EV.aast (a := 5) (ci := 5) (n := 4) dX8_init_72 (by decide +kernel) (by decide) (by decide +kernel) (by decide) (by decide) ?_
  refine EV.eqH (h2 := hC_109) rfl ?_
  refine EV.iinc dX8_init_73 rfl (by decide) ?_
  refine EV.eqL (L2 := [some (.inr (.inr 106)), some (.inl (1))]) (by decide +kernel) ?_
  refine EV.goto (tgt := 55) dX8_init_76 (by decide) ?_
  refine EV.iload_n dX8_init_55 rfl rfl ?_
  refine EV.iconst dX8_init_56 (by decide) (by decide) ?_
  refine EV.icmp_ge (tgt := 79) dX8_init_57 (by decide) (fun q => absurd q (by decide)) (fun _ => ?_)
  refine EV.aload_n dX8_init_60 rfl rfl ?_
  refine EV.getV (v := 107) dX8_init_61 (by decide +kernel) fl_8_11 rfl (by decide +kernel) ?_
  refine EV.iload_n dX8_init_64 rfl rfl ?_
  refine EV.newoC (n := 127) (sh2 := (pv_sc.take 128)) (ci := 5) (by decide +kernel) (by decide +kernel) dX8_init_65 (by decide) cl_X8_9 in_X5 ii_X5 (by decide) ⟨(pv_sc.take 161).drop 128, by decide +kernel⟩ ?_
  refine EV.eqH (h2 := hC_110) rfl ?_
  refine EV.dup dX8_init_68 rfl ?_
  refine EV.invN (As := []) (st := [.inr (.inr 127), .inl (1), .inr (.inr 107)]) (d1 := d - 1) (sh1 := (pv_sc.take 133)) (h1 := hC_111) (r1 := none) dX8_init_69 md_X5_init mn_X8_44 im_X5_init rfl (ct_X5 (d := d - 1) (sh := (pv_sc.take 128)) (sh2 := (pv_sc.take 133)) (n := 128) (by decide +kernel) (by decide +kernel) (by decide) (by omega) (by decide +kernel)) (by omega) rfl rfl (Nat.le_of_ble_eq_true rfl) ⟨(pv_sc.take 161).drop 133, by decide +kernel⟩ ?_
  refine EV.aast (a := 5) (ci := 5) (n := 4) dX8_init_72 (by decide +kernel) (by decide) (by decide +kernel) (by decide) (by decide) ?_
  refine EV.eqH (h2 := hC_112) rfl ?_
  refine EV.iinc dX8_init_73 rfl (by decide) ?_
  refine EV.eqL (L2 := [some (.inr (.inr 106)), some (.inl (2))]) (by decide +kernel) ?_
  refine EV.goto (tgt := 55) dX8_init_76 (by decide) ?_
  refine EV.iload_n dX8_init_55 rfl rfl ?_
  refine EV.iconst dX8_init_56 (by decide) (by decide) ?_
  refine EV.icmp_ge (tgt := 79) dX8_init_57 (by decide) (fun q => absurd q (by decide)) (fun _ => ?_)
  refine EV.aload_n dX8_init_60 rfl rfl ?_
  refine EV.getV (v := 107) dX8_init_61 (by decide +kernel) fl_8_11 rfl (by decide +kernel) ?_
  refine EV.iload_n dX8_init_64 rfl rfl ?_
  refine EV.newoC (n := 133) (sh2 := (pv_sc.take 134)) (ci := 5) (by decide +kernel) (by decide +kernel) dX8_init_65 (by decide) cl_X8_9 in_X5 ii_X5 (by decide) ⟨(pv_sc.take 161).drop 134, by decide +kernel⟩ ?_
  refine EV.eqH (h2 := hC_113) rfl ?_
  refine EV.dup dX8_init_68 rfl ?_
  refine EV.invN (As := []) (st := [.inr (.inr 133), .inl (2), .inr (.inr 107)]) (d1 := d - 1) (sh1 := (pv_sc.take 139)) (h1 := hC_114) (r1 := none) dX8_init_69 md_X5_init mn_X8_44 im_X5_init rfl (ct_X5 (d := d - 1) (sh := (pv_sc.take 134)) (sh2 := (pv_sc.take 139)) (n := 134) (by decide +kernel) (by decide +kernel) (by decide) (by omega) (by decide +kernel)) (by omega) rfl rfl (Nat.le_of_ble_eq_true rfl) ⟨(pv_sc.take 161).drop 139, by decide +kernel⟩ ?_
  refine EV.aast (a := 5) (ci := 5) (n := 4) dX8_init_72 (by decide +kernel) (by decide) (by decide +kernel) (by decide) (by decide) ?_
  refine EV.eqH (h2 := hC_115) rfl ?_
  refine EV.iinc dX8_init_73 rfl (by decide) ?_
  refine EV.eqL (L2 := [some (.inr (.inr 106)), some (.inl (3))]) (by decide +kernel) ?_
  refine EV.goto (tgt := 55) dX8_init_76 (by decide) ?_
  refine EV.iload_n dX8_init_55 rfl rfl ?_
  refine EV.iconst dX8_init_56 (by decide) (by decide) ?_
  refine EV.icmp_ge (tgt := 79) dX8_init_57 (by decide) (fun q => absurd q (by decide)) (fun _ => ?_)
  refine EV.aload_n dX8_init_60 rfl rfl ?_
  refine EV.getV (v := 107) dX8_init_61 (by decide +kernel) fl_8_11 rfl (by decide +kernel) ?_
  refine EV.iload_n dX8_init_64 rfl rfl ?_
  refine EV.newoC (n := 139) (sh2 := (pv_sc.take 140)) (ci := 5) (by decide +kernel) (by decide +kernel) dX8_init_65 (by decide) cl_X8_9 in_X5 ii_X5 (by decide) ⟨(pv_sc.take 161).drop 140, by decide +kernel⟩ ?_
  refine EV.eqH (h2 := hC_116) rfl ?_
  refine EV.dup dX8_init_68 rfl ?_
  refine EV.invN (As := []) (st := [.inr (.inr 139), .inl (3), .inr (.inr 107)]) (d1 := d - 1) (sh1 := (pv_sc.take 145)) (h1 := hC_117) (r1 := none) dX8_init_69 md_X5_init mn_X8_44 im_X5_init rfl (ct_X5 (d := d - 1) (sh := (pv_sc.take 140)) (sh2 := (pv_sc.take 145)) (n := 140) (by decide +kernel) (by decide +kernel) (by decide) (by omega) (by decide +kernel)) (by omega) rfl rfl (Nat.le_of_ble_eq_true rfl) ⟨(pv_sc.take 161).drop 145, by decide +kernel⟩ ?_
  refine EV.aast (a := 5) (ci := 5) (n := 4) dX8_init_72 (by decide +kernel) (by decide) (by decide +kernel) (by decide) (by decide) ?_
  refine EV.eqH (h2 := hC_118) rfl ?_
  refine EV.iinc dX8_init_73 rfl (by decide) ?_
  refine EV.eqL (L2 := [some (.inr (.inr 106)), some (.inl (4))]) (by decide +kernel) ?_
  refine EV.goto (tgt := 55) dX8_init_76 (by decide) ?_
  refine EV.iload_n dX8_init_55 rfl rfl ?_
  refine EV.iconst dX8_init_56 (by decide) (by decide) ?_
  refine EV.icmp_ge (tgt := 79) dX8_init_57 (by decide) (fun _ => ?_) (fun q => absurd (by decide) q)
  refine EV.iconst dX8_init_79 (by decide) (by decide) ?_
  refine EV.istore_n dX8_init_80 rfl (by decide) ?_
  refine EV.eqL (L2 := [some (.inr (.inr 106)), some (.inl (0))]) rfl ?_
  refine EV.iload_n dX8_init_81 rfl rfl ?_
  refine EV.iconst dX8_init_82 (by decide) (by decide) ?_
  refine EV.icmp_ge (tgt := 105) dX8_init_83 (by decide) (fun q => absurd q (by decide)) (fun _ => ?_)
  refine EV.aload_n dX8_init_86 rfl rfl ?_
  refine EV.getV (v := 108) dX8_init_87 (by decide +kernel) fl_8_19 rfl (by decide +kernel) ?_
  refine EV.iload_n dX8_init_90 rfl rfl ?_
  refine EV.newoC (n := 145) (sh2 := (pv_sc.take 146)) (ci := 0) (by decide +kernel) (by decide +kernel) dX8_init_91 (by decide) cl_X8_17 in_X0 ii_X0 (by decide) ⟨(pv_sc.take 161).drop 146, by decide +kernel⟩ ?_
  refine EV.eqH (h2 := hC_119) rfl ?_
  refine EV.dup dX8_init_94 rfl ?_
  refine EV.invN (As := []) (st := [.inr (.inr 145), .inl (0), .inr (.inr 108)]) (d1 := d - 1) (sh1 := (pv_sc.take 149)) (h1 := hC_120) (r1 := none) dX8_init_95 md_X0_init mn_X8_45 im_X0_init rfl (ct_X0 (d := d - 1) (sh := (pv_sc.take 146)) (sh2 := (pv_sc.take 149)) (n := 146) (by decide +kernel) (by decide +kernel) (by decide) (by omega) (by decide +kernel)) (by omega) rfl rfl (Nat.le_of_ble_eq_true rfl) ⟨(pv_sc.take 161).drop 149, by decide +kernel⟩ ?_
  refine EV.aast (a := 6) (ci := 0) (n := 4) dX8_init_98 (by decide +kernel) (by decide) (by decide +kernel) (by decide) (by decide) ?_
  refine EV.eqH (h2 := hC_121) rfl ?_
  refine EV.iinc dX8_init_99 rfl (by decide) ?_
  refine EV.eqL (L2 := [some (.inr (.inr 106)), some (.inl (1))]) (by decide +kernel) ?_
  refine EV.goto (tgt := 81) dX8_init_102 (by decide) ?_
  refine EV.iload_n dX8_init_81 rfl rfl ?_
  refine EV.iconst dX8_init_82 (by decide) (by decide) ?_
  refine EV.icmp_ge (tgt := 105) dX8_init_83 (by decide) (fun q => absurd q (by decide)) (fun _ => ?_)
  refine EV.aload_n dX8_init_86 rfl rfl ?_
  refine EV.getV (v := 108) dX8_init_87 (by decide +kernel) fl_8_19 rfl (by decide +kernel) ?_
  refine EV.iload_n dX8_init_90 rfl rfl ?_
  refine EV.newoC (n := 149) (sh2 := (pv_sc.take 150)) (ci := 0) (by decide +kernel) (by decide +kernel) dX8_init_91 (by decide) cl_X8_17 in_X0 ii_X0 (by decide) ⟨(pv_sc.take 161).drop 150, by decide +kernel⟩ ?_
  refine EV.eqH (h2 := hC_122) rfl ?_
  refine EV.dup dX8_init_94 rfl ?_
  refine EV.invN (As := []) (st := [.inr (.inr 149), .inl (1), .inr (.inr 108)]) (d1 := d - 1) (sh1 := (pv_sc.take 153)) (h1 := hC_123) (r1 := none) dX8_init_95 md_X0_init mn_X8_45 im_X0_init rfl (ct_X0 (d := d - 1) (sh := (pv_sc.take 150)) (sh2 := (pv_sc.take 153)) (n := 150) (by decide +kernel) (by decide +kernel) (by decide) (by omega) (by decide +kernel)) (by omega) rfl rfl (Nat.le_of_ble_eq_true rfl) ⟨(pv_sc.take 161).drop 153, by decide +kernel⟩ ?_
  refine EV.aast (a := 6) (ci := 0) (n := 4) dX8_init_98 (by decide +kernel) (by decide) (by decide +kernel) (by decide) (by decide) ?_
  refine EV.eqH (h2 := hC_124) rfl ?_
  refine EV.iinc dX8_init_99 rfl (by decide) ?_
  refine EV.eqL (L2 := [some (.inr (.inr 106)), some (.inl (2))]) (by decide +kernel) ?_
  refine EV.goto (tgt := 81) dX8_init_102 (by decide) ?_
  refine EV.iload_n dX8_init_81 rfl rfl ?_
  refine EV.iconst dX8_init_82 (by decide) (by decide) ?_
  refine EV.icmp_ge (tgt := 105) dX8_init_83 (by decide) (fun q => absurd q (by decide)) (fun _ => ?_)
  refine EV.aload_n dX8_init_86 rfl rfl ?_
  refine EV.getV (v := 108) dX8_init_87 (by decide +kernel) fl_8_19 rfl (by decide +kernel) ?_
  refine EV.iload_n dX8_init_90 rfl rfl ?_
  refine EV.newoC (n := 153) (sh2 := (pv_sc.take 154)) (ci := 0) (by decide +kernel) (by decide +kernel) dX8_init_91 (by decide) cl_X8_17 in_X0 ii_X0 (by decide) ⟨(pv_sc.take 161).drop 154, by decide +kernel⟩ ?_
  refine EV.eqH (h2 := hC_125) rfl ?_
  refine EV.dup dX8_init_94 rfl ?_
  refine EV.invN (As := []) (st := [.inr (.inr 153), .inl (2), .inr (.inr 108)]) (d1 := d - 1) (sh1 := (pv_sc.take 157)) (h1 := hC_126) (r1 := none) dX8_init_95 md_X0_init mn_X8_45 im_X0_init rfl (ct_X0 (d := d - 1) (sh := (pv_sc.take 154)) (sh2 := (pv_sc.take 157)) (n := 154) (by decide +kernel) (by decide +kernel) (by decide) (by omega) (by decide +kernel)) (by omega) rfl rfl (Nat.le_of_ble_eq_true rfl) ⟨(pv_sc.take 161).drop 157, by decide +kernel⟩ ?_
  refine EV.aast (a := 6) (ci := 0) (n := 4) dX8_init_98 (by decide +kernel) (by decide) (by decide +kernel) (by decide) (by decide) ?_
  refine EV.eqH (h2 := hC_127) rfl ?_
  refine EV.iinc dX8_init_99 rfl (by decide) ?_
  refine EV.eqL (L2 := [some (.inr (.inr 106)), some (.inl (3))]) (by decide +kernel) ?_
  refine EV.goto (tgt := 81) dX8_init_102 (by decide) ?_
  refine EV.iload_n dX8_init_81 rfl rfl ?_
  refine EV.iconst dX8_init_82 (by decide) (by decide) ?_
  refine EV.icmp_ge (tgt := 105) dX8_init_83 (by decide) (fun q => absurd q (by decide)) (fun _ => ?_)
  refine EV.aload_n dX8_init_86 rfl rfl ?_
  refine EV.getV (v := 108) dX8_init_87 (by decide +kernel) fl_8_19 rfl (by decide +kernel) ?_
  refine EV.iload_n dX8_init_90 rfl rfl ?_
  refine EV.newoC (n := 157) (sh2 := (pv_sc.take 158)) (ci := 0) (by decide +kernel) (by decide +kernel) dX8_init_91 (by decide) cl_X8_17 in_X0 ii_X0 (by decide) ⟨(pv_sc.take 161).drop 158, by decide +kernel⟩ ?_
  refine EV.eqH (h2 := hC_128) rfl ?_
  refine EV.dup dX8_init_94 rfl ?_
  refine EV.invN (As := []) (st := [.inr (.inr 157), .inl (3), .inr (.inr 108)]) (d1 := d - 1) (sh1 := (pv_sc.take 161)) (h1 := hC_129) (r1 := none) dX8_init_95 md_X0_init mn_X8_45 im_X0_init rfl (ct_X0 (d := d - 1) (sh := (pv_sc.take 158)) (sh2 := (pv_sc.take 161)) (n := 158) (by decide +kernel) (by decide +kernel) (by decide) (by omega) (by decide +kernel)) (by omega) rfl rfl (Nat.le_of_ble_eq_true rfl) ⟨(pv_sc.take 161).drop 161, by decide +kernel⟩ ?_
  refine EV.aast (a := 6) (ci := 0) (n := 4) dX8_init_98 (by decide +kernel) (by decide) (by decide +kernel) (by decide) (by decide) ?_
  refine EV.eqH (h2 := hC_130) rfl ?_
  refine EV.iinc dX8_init_99 rfl (by decide) ?_
  refine EV.eqL (L2 := [some (.inr (.inr 106)), some (.inl (4))]) (by decide +kernel) ?_
  refine EV.goto (tgt := 81) dX8_init_102 (by decide) ?_
  refine EV.iload_n dX8_init_81 rfl rfl ?_
  refine EV.iconst dX8_init_82 (by decide) (by decide) ?_
  refine EV.icmp_ge (tgt := 105) dX8_init_83 (by decide) (fun _ => ?_) (fun q => absurd (by decide) q)
  exact EV.vret dX8_init_105

theorem ct_hC_161 {d : Nat} (hd : 3 ≤ d) : CALL yX8_init cX8_init 2 none d (pv_sc.take 162) hC_132 [.inr (.inr 161)] (pv_sc.take 216) hC_169 none := by
  refine EV.call (own := RX8) (ini := true) rfl rfl (fun _ => rfl) ⟨(pv_sc.take 216).drop 162, by decide +kernel⟩ (Nat.le_of_ble_eq_true rfl) ?_
  refine EV.eqL (L2 := [some (.inr (.inr 161)), none]) rfl ?_
  refine EV.aload_n dX8_init_0 rfl rfl ?_
  refine EV.obj dX8_init_1 ml_X8_3 w_oii w_oic (by omega) (Nat.le_of_ble_eq_true rfl) ?_
  refine EV.aload_n dX8_init_4 rfl rfl ?_
  refine EV.iconst dX8_init_5 (by decide) (by decide) ?_
  refine EV.newaC5 (n := 162) (m := 4) (sh2 := (pv_sc.take 163)) (by decide +kernel) rfl (by decide +kernel) dX8_init_6 cl_X8_9 (by decide) (by decide) (by decide) ⟨(pv_sc.take 216).drop 163, by decide +kernel⟩ ?_
  refine EV.eqH (h2 := hC_133) rfl ?_
  refine EV.putF dX8_init_9 (by decide +kernel) fl_8_11 rfl rfl rfl ⟨rfl, by decide +kernel, rfl⟩ ?_
  refine EV.eqH (h2 := hC_134) rfl ?_
  refine EV.aload_n dX8_init_12 rfl rfl ?_
  refine EV.iconst dX8_init_13 (by decide) (by decide) ?_
  refine EV.newaC6 (n := 163) (m := 4) (sh2 := (pv_sc.take 164)) (by decide +kernel) rfl (by decide +kernel) dX8_init_14 cl_X8_17 (by decide) (by decide) (by decide) ⟨(pv_sc.take 216).drop 164, by decide +kernel⟩ ?_
  refine EV.eqH (h2 := hC_135) rfl ?_
  refine EV.putF dX8_init_17 (by decide +kernel) fl_8_19 rfl rfl rfl ⟨rfl, by decide +kernel, rfl⟩ ?_
  refine EV.eqH (h2 := hC_136) rfl ?_
  refine EV.aload_n dX8_init_20 rfl rfl ?_
  refine EV.newoC (n := 164) (sh2 := (pv_sc.take 165)) (ci := 2) (by decide +kernel) (by decide +kernel) dX8_init_21 (by decide) cl_X8_23 in_X2 ii_X2 (by decide) ⟨(pv_sc.take 216).drop 165, by decide +kernel⟩ ?_
  refine EV.eqH (h2 := hC_137) rfl ?_
  refine EV.dup dX8_init_24 rfl ?_
  refine EV.invI (As := []) (st := [.inr (.inr 164), .inr (.inr 161)]) (d1 := d - 1) (sh1 := (pv_sc.take 166)) (h1 := hC_138) (r1 := none) dX8_init_25 md_X2_init ml_X8_25 im_X2_init rfl (ct_X2 (d := d - 1) (sh := (pv_sc.take 165)) (sh2 := (pv_sc.take 166)) (n := 165) (by decide +kernel) (by decide +kernel) (by decide) (by omega) (by decide +kernel)) (by omega) rfl rfl (Nat.le_of_ble_eq_true rfl) ⟨(pv_sc.take 216).drop 166, by decide +kernel⟩ ?_
  refine EV.putF dX8_init_28 (by decide +kernel) fl_8_26 rfl rfl rfl ⟨rfl, by decide +kernel, rfl⟩ ?_
  refine EV.eqH (h2 := hC_139) rfl ?_
  refine EV.aload_n dX8_init_31 rfl rfl ?_
  refine EV.newoC (n := 166) (sh2 := (pv_sc.take 167)) (ci := 3) (by decide +kernel) (by decide +kernel) dX8_init_32 (by decide) cl_X8_30 in_X3 ii_X3 (by decide) ⟨(pv_sc.take 216).drop 167, by decide +kernel⟩ ?_
  refine EV.eqH (h2 := hC_140) rfl ?_
  refine EV.dup dX8_init_35 rfl ?_
  refine EV.invN (As := []) (st := [.inr (.inr 166), .inr (.inr 161)]) (d1 := d - 1) (sh1 := (pv_sc.take 171)) (h1 := hC_141) (r1 := none) dX8_init_36 md_X3_init mn_X8_32 im_X3_init rfl (ct_X3 (d := d - 1) (sh := (pv_sc.take 167)) (sh2 := (pv_sc.take 171)) (n := 167) (by decide +kernel) (by decide +kernel) (by decide) (by omega) (by decide +kernel)) (by omega) rfl rfl (Nat.le_of_ble_eq_true rfl) ⟨(pv_sc.take 216).drop 171, by decide +kernel⟩ ?_
  refine EV.putF dX8_init_39 (by decide +kernel) fl_8_33 rfl rfl rfl ⟨rfl, by decide +kernel, rfl⟩ ?_
  refine EV.eqH (h2 := hC_142) rfl ?_
  refine EV.aload_n dX8_init_42 rfl rfl ?_
  refine EV.newoC (n := 171) (sh2 := (pv_sc.take 172)) (ci := 7) (by decide +kernel) (by decide +kernel) dX8_init_43 (by decide) cl_X8_37 in_X7 ii_X7 (by decide) ⟨(pv_sc.take 216).drop 172, by decide +kernel⟩ ?_
  refine EV.eqH (h2 := hC_143) rfl ?_
  refine EV.dup dX8_init_46 rfl ?_
  refine EV.invN (As := []) (st := [.inr (.inr 171), .inr (.inr 161)]) (d1 := d - 1) (sh1 := (pv_sc.take 176)) (h1 := hC_144) (r1 := none) dX8_init_47 md_X7_init mn_X8_39 im_X7_init rfl (ct_X7 (d := d - 1) (sh := (pv_sc.take 172)) (sh2 := (pv_sc.take 176)) (n := 172) (by decide +kernel) (by decide +kernel) (by decide) (by omega) (by decide +kernel)) (by omega) rfl rfl (Nat.le_of_ble_eq_true rfl) ⟨(pv_sc.take 216).drop 176, by decide +kernel⟩ ?_
  refine EV.putF dX8_init_50 (by decide +kernel) fl_8_40 rfl rfl rfl ⟨rfl, by decide +kernel, rfl⟩ ?_
  refine EV.eqH (h2 := hC_145) rfl ?_
  refine EV.iconst dX8_init_53 (by decide) (by decide) ?_
  refine EV.istore_n dX8_init_54 rfl (by decide) ?_
  refine EV.eqL (L2 := [some (.inr (.inr 161)), some (.inl (0))]) rfl ?_
  refine EV.iload_n dX8_init_55 rfl rfl ?_
  refine EV.iconst dX8_init_56 (by decide) (by decide) ?_
  refine EV.icmp_ge (tgt := 79) dX8_init_57 (by decide) (fun q => absurd q (by decide)) (fun _ => ?_)
  refine EV.aload_n dX8_init_60 rfl rfl ?_
  refine EV.getV (v := 162) dX8_init_61 (by decide +kernel) fl_8_11 rfl (by decide +kernel) ?_
  refine EV.iload_n dX8_init_64 rfl rfl ?_
  refine EV.newoC (n := 176) (sh2 := (pv_sc.take 177)) (ci := 5) (by decide +kernel) (by decide +kernel) dX8_init_65 (by decide) cl_X8_9 in_X5 ii_X5 (by decide) ⟨(pv_sc.take 216).drop 177, by decide +kernel⟩ ?_
  refine EV.eqH (h2 := hC_146) rfl ?_
  refine EV.dup dX8_init_68 rfl ?_
  refine EV.invN (As := []) (st := [.inr (.inr 176), .inl (0), .inr (.inr 162)]) (d1 := d - 1) (sh1 := (pv_sc.take 182)) (h1 := hC_147) (r1 := none) dX8_init_69 md_X5_init mn_X8_44 im_X5_init rfl (ct_X5 (d := d - 1) (sh := (pv_sc.take 177)) (sh2 := (pv_sc.take 182)) (n := 177) (by decide +kernel) (by decide +kernel) (by decide) (by omega) (by decide +kernel)) (by omega) rfl rfl (Nat.le_of_ble_eq_true rfl) ⟨(pv_sc.take 216).drop 182, by decide +kernel⟩ ?_
  refine EV.aast (a := 5) (ci := 5) (n := 4) dX8_init_72 (by decide +kernel) (by decide) (by decide +kernel) (by decide) (by decide) ?_
  refine EV.eqH (h2 := hC_148) rfl ?_
  refine EV.iinc dX8_init_73 rfl (by decide) ?_
  refine EV.eqL (L2 := [some (.inr (.inr 161)), some (.inl (1))]) (by decide +kernel) ?_
  refine EV.goto (tgt := 55) dX8_init_76 (by decide) ?_
  refine EV.iload_n dX8_init_55 rfl rfl ?_
  refine EV.iconst dX8_init_56 (by decide) (by decide) ?_
  refine EV.icmp_ge (tgt := 79) dX8_init_57 (by decide) (fun q => absurd q (by decide)) (fun _ => ?_)
  refine EV.aload_n dX8_init_60 rfl rfl ?_
  refine EV.getV (v := 162) dX8_init_61 (by decide +kernel) fl_8_11 rfl (by decide +kernel) ?_
  refine EV.iload_n dX8_init_64 rfl rfl ?_
  refine EV.newoC (n := 182) (sh2 := (pv_sc.take 183)) (ci := 5) (by decide +kernel) (by decide +kernel) dX8_init_65 (by decide) cl_X8_9 in_X5 ii_X5 (by decide) ⟨(pv_sc.take 216).drop 183, by decide +kernel⟩ ?_
  refine EV.eqH (h2 := hC_149) rfl ?_
  refine EV.dup dX8_init_68 rfl ?_
  refine EV.invN (As := []) (st := [.inr (.inr 182), .inl (1), .inr (.inr 162)]) (d1 := d - 1) (sh1 := (pv_sc.take 188)) (h1 := hC_150) (r1 := none) dX8_init_69 md_X5_init mn_X8_44 im_X5_init rfl (ct_X5 (d := d - 1) (sh := (pv_sc.take 183)) (sh2 := (pv_sc.take 188)) (n := 183) (by decide +kernel) (by decide +kernel) (by decide) (by omega) (by decide +kernel)) (by omega) rfl rfl (Nat.le_of_ble_eq_true rfl) ⟨(pv_sc.take 216).drop 188, by decide +kernel⟩ ?_
  refine EV.aast (a := 5) (ci := 5) (n := 4) dX8_init_72 (by decide +kernel) (by decide) (by decide +kernel) (by decide) (by decide) ?_
  refine EV.eqH (h2 := hC_151) rfl ?_
  refine EV.iinc dX8_init_73 rfl (by decide) ?_
  refine EV.eqL (L2 := [some (.inr (.inr 161)), some (.inl (2))]) (by decide +kernel) ?_
  refine EV.goto (tgt := 55) dX8_init_76 (by decide) ?_
  refine EV.iload_n dX8_init_55 rfl rfl ?_
  refine EV.iconst dX8_init_56 (by decide) (by decide) ?_
  refine EV.icmp_ge (tgt := 79) dX8_init_57 (by decide) (fun q => absurd q (by decide)) (fun _ => ?_)
  refine EV.aload_n dX8_init_60 rfl rfl ?_
  refine EV.getV (v := 162) dX8_init_61 (by decide +kernel) fl_8_11 rfl (by decide +kernel) ?_
  refine EV.iload_n dX8_init_64 rfl rfl ?_
  refine EV.newoC (n := 188) (sh2 := (pv_sc.take 189)) (ci := 5) (by decide +kernel) (by decide +kernel) dX8_init_65 (by decide) cl_X8_9 in_X5 ii_X5 (by decide) ⟨(pv_sc.take 216).drop 189, by decide +kernel⟩ ?_
  refine EV.eqH (h2 := hC_152) rfl ?_
  refine EV.dup dX8_init_68 rfl ?_
  refine EV.invN (As := []) (st := [.inr (.inr 188), .inl (2), .inr (.inr 162)]) (d1 := d - 1) (sh1 := (pv_sc.take 194)) (h1 := hC_153) (r1 := none) dX8_init_69 md_X5_init mn_X8_44 im_X5_init rfl (ct_X5 (d := d - 1) (sh := (pv_sc.take 189)) (sh2 := (pv_sc.take 194)) (n := 189) (by decide +kernel) (by decide +kernel) (by decide) (by omega) (by decide +kernel)) (by omega) rfl rfl (Nat.le_of_ble_eq_true rfl) ⟨(pv_sc.take 216).drop 194, by decide +kernel⟩ ?_
  refine EV.aast (a := 5) (ci := 5) (n := 4) dX8_init_72 (by decide +kernel) (by decide) (by decide +kernel) (by decide) (by decide) ?_
  refine EV.eqH (h2 := hC_154) rfl ?_
  refine EV.iinc dX8_init_73 rfl (by decide) ?_
  refine EV.eqL (L2 := [some (.inr (.inr 161)), some (.inl (3))]) (by decide +kernel) ?_
  refine EV.goto (tgt := 55) dX8_init_76 (by decide) ?_
  refine EV.iload_n dX8_init_55 rfl rfl ?_
  refine EV.iconst dX8_init_56 (by decide) (by decide) ?_
  refine EV.icmp_ge (tgt := 79) dX8_init_57 (by decide) (fun q => absurd q (by decide)) (fun _ => ?_)
  refine EV.aload_n dX8_init_60 rfl rfl ?_
  refine EV.getV (v := 162) dX8_init_61 (by decide +kernel) fl_8_11 rfl (by decide +kernel) ?_
  refine EV.iload_n dX8_init_64 rfl rfl ?_
  refine EV.newoC (n := 194) (sh2 := (pv_sc.take 195)) (ci := 5) (by decide +kernel) (by decide +kernel) dX8_init_65 (by decide) cl_X8_9 in_X5 ii_X5 (by decide) ⟨(pv_sc.take 216).drop 195, by decide +kernel⟩ ?_
  refine EV.eqH (h2 := hC_155) rfl ?_
  refine EV.dup dX8_init_68 rfl ?_
  refine EV.invN (As := []) (st := [.inr (.inr 194), .inl (3), .inr (.inr 162)]) (d1 := d - 1) (sh1 := (pv_sc.take 200)) (h1 := hC_156) (r1 := none) dX8_init_69 md_X5_init mn_X8_44 im_X5_init rfl (ct_X5 (d := d - 1) (sh := (pv_sc.take 195)) (sh2 := (pv_sc.take 200)) (n := 195) (by decide +kernel) (by decide +kernel) (by decide) (by omega) (by decide +kernel)) (by omega) rfl rfl (Nat.le_of_ble_eq_true rfl) ⟨(pv_sc.take 216).drop 200, by decide +kernel⟩ ?_
  refine EV.aast (a := 5) (ci := 5) (n := 4) dX8_init_72 (by decide +kernel) (by decide) (by decide +kernel) (by decide) (by decide) ?_
  refine EV.eqH (h2 := hC_157) rfl ?_
  refine EV.iinc dX8_init_73 rfl (by decide) ?_
  refine EV.eqL (L2 := [some (.inr (.inr 161)), some (.inl (4))]) (by decide +kernel) ?_
  refine EV.goto (tgt := 55) dX8_init_76 (by decide) ?_
  refine EV.iload_n dX8_init_55 rfl rfl ?_
  refine EV.iconst dX8_init_56 (by decide) (by decide) ?_
  refine EV.icmp_ge (tgt := 79) dX8_init_57 (by decide) (fun _ => ?_) (fun q => absurd (by decide) q)
  refine EV.iconst dX8_init_79 (by decide) (by decide) ?_
  refine EV.istore_n dX8_init_80 rfl (by decide) ?_
  refine EV.eqL (L2 := [some (.inr (.inr 161)), some (.inl (0))]) rfl ?_
  refine EV.iload_n dX8_init_81 rfl rfl ?_
  refine EV.iconst dX8_init_82 (by decide) (by decide) ?_
  refine EV.icmp_ge (tgt := 105) dX8_init_83 (by decide) (fun q => absurd q (by decide)) (fun _ => ?_)
  refine EV.aload_n dX8_init_86 rfl rfl ?_
  refine EV.getV (v := 163) dX8_init_87 (by decide +kernel) fl_8_19 rfl (by decide +kernel) ?_
  refine EV.iload_n dX8_init_90 rfl rfl ?_
  refine EV.newoC (n := 200) (sh2 := (pv_sc.take 201)) (ci := 0) (by decide +kernel) (by decide +kernel) dX8_init_91 (by decide) cl_X8_17 in_X0 ii_X0 (by decide) ⟨(pv_sc.take 216).drop 201, by decide +kernel⟩ ?_
  refine EV.eqH (h2 := hC_158) rfl ?_
  refine EV.dup dX8_init_94 rfl ?_
  refine EV.invN (As := []) (st := [.inr (.inr 200), .inl (0), .inr (.inr 163)]) (d1 := d - 1) (sh1 := (pv_sc.take 204)) (h1 := hC_159) (r1 := none) dX8_init_95 md_X0_init mn_X8_45 im_X0_init rfl (ct_X0 (d := d - 1) (sh := (pv_sc.take 201)) (sh2 := (pv_sc.take 204)) (n := 201) (by decide +kernel) (by decide +kernel) (by decide) (by omega) (by decide +kernel)) (by omega) rfl rfl (Nat.le_of_ble_eq_true rfl) ⟨(pv_sc.take 216).drop 204, by decide +kernel⟩ ?_
  refine EV.aast (a := 6) (ci := 0) (n := 4) dX8_init_98 (by decide +kernel) (by decide) (by decide +kernel) (by decide) (by decide) ?_
  refine EV.eqH (h2 := hC_160) rfl ?_
  refine EV.iinc dX8_init_99 rfl (by decide) ?_
  refine EV.eqL (L2 := [some (.inr (.inr 161)), some (.inl (1))]) (by decide +kernel) ?_
  refine EV.goto (tgt := 81) dX8_init_102 (by decide) ?_
  refine EV.iload_n dX8_init_81 rfl rfl ?_
  refine EV.iconst dX8_init_82 (by decide) (by decide) ?_
  refine EV.icmp_ge (tgt := 105) dX8_init_83 (by decide) (fun q => absurd q (by decide)) (fun _ => ?_)
  refine EV.aload_n dX8_init_86 rfl rfl ?_
  refine EV.getV (v := 163) dX8_init_87 (by decide +kernel) fl_8_19 rfl (by decide +kernel) ?_
  refine EV.iload_n dX8_init_90 rfl rfl ?_
  refine EV.newoC (n := 204) (sh2 := (pv_sc.take 205)) (ci := 0) (by decide +kernel) (by decide +kernel) dX8_init_91 (by decide) cl_X8_17 in_X0 ii_X0 (by decide) ⟨(pv_sc.take 216).drop 205, by decide +kernel⟩ ?_
  refine EV.eqH (h2 := hC_161) rfl ?_
  refine EV.dup dX8_init_94 rfl ?_
  refine EV.invN (As := []) (st := [.inr (.inr 204), .inl (1), .inr (.inr 163)]) (d1 := d - 1) (sh1 := (pv_sc.take 208)) (h1 := hC_162) (r1 := none) dX8_init_95 md_X0_init mn_X8_45 im_X0_init rfl (ct_X0 (d := d - 1) (sh := (pv_sc.take 205)) (sh2 := (pv_sc.take 208)) (n := 205) (by decide +kernel) (by decide +kernel) (by decide) (by omega) (by decide +kernel)) (by omega) rfl rfl (Nat.le_of_ble_eq_true rfl) ⟨(pv_sc.take 216).drop 208, by decide +kernel⟩ ?_
  refine EV.aast (a := 6) (ci := 0) (n := 4) dX8_init_98 (by decide +kernel) (by decide) (by decide +kernel) (by decide) (by decide) ?_
  refine EV.eqH (h2 := hC_163) rfl ?_
  refine EV.iinc dX8_init_99 rfl (by decide) ?_
  refine EV.eqL (L2 := [some (.inr (.inr 161)), some (.inl (2))]) (by decide +kernel) ?_
  refine EV.goto (tgt := 81) dX8_init_102 (by decide) ?_
  refine EV.iload_n dX8_init_81 rfl rfl ?_
  refine EV.iconst dX8_init_82 (by decide) (by decide) ?_
  refine EV.icmp_ge (tgt := 105) dX8_init_83 (by decide) (fun q => absurd q (by decide)) (fun _ => ?_)
  refine EV.aload_n dX8_init_86 rfl rfl ?_
  refine EV.getV (v := 163) dX8_init_87 (by decide +kernel) fl_8_19 rfl (by decide +kernel) ?_
  refine EV.iload_n dX8_init_90 rfl rfl ?_
  refine EV.newoC (n := 208) (sh2 := (pv_sc.take 209)) (ci := 0) (by decide +kernel) (by decide +kernel) dX8_init_91 (by decide) cl_X8_17 in_X0 ii_X0 (by decide) ⟨(pv_sc.take 216).drop 209, by decide +kernel⟩ ?_
  refine EV.eqH (h2 := hC_164) rfl ?_
  refine EV.dup dX8_init_94 rfl ?_
  refine EV.invN (As := []) (st := [.inr (.inr 208), .inl (2), .inr (.inr 163)]) (d1 := d - 1) (sh1 := (pv_sc.take 212)) (h1 := hC_165) (r1 := none) dX8_init_95 md_X0_init mn_X8_45 im_X0_init rfl (ct_X0 (d := d - 1) (sh := (pv_sc.take 209)) (sh2 := (pv_sc.take 212)) (n := 209) (by decide +kernel) (by decide +kernel) (by decide) (by omega) (by decide +kernel)) (by omega) rfl rfl (Nat.le_of_ble_eq_true rfl) ⟨(pv_sc.take 216).drop 212, by decide +kernel⟩ ?_
  refine EV.aast (a := 6) (ci := 0) (n := 4) dX8_init_98 (by decide +kernel) (by decide) (by decide +kernel) (by decide) (by decide) ?_
  refine EV.eqH (h2 := hC_166) rfl ?_
  refine EV.iinc dX8_init_99 rfl (by decide) ?_
  refine EV.eqL (L2 := [some (.inr (.inr 161)), some (.inl (3))]) (by decide +kernel) ?_
  refine EV.goto (tgt := 81) dX8_init_102 (by decide) ?_
  refine EV.iload_n dX8_init_81 rfl rfl ?_
  refine EV.iconst dX8_init_82 (by decide) (by decide) ?_
  refine EV.icmp_ge (tgt := 105) dX8_init_83 (by decide) (fun q => absurd q (by decide)) (fun _ => ?_)
  refine EV.aload_n dX8_init_86 rfl rfl ?_
  refine EV.getV (v := 163) dX8_init_87 (by decide +kernel) fl_8_19 rfl (by decide +kernel) ?_
  refine EV.iload_n dX8_init_90 rfl rfl ?_
  refine EV.newoC (n := 212) (sh2 := (pv_sc.take 213)) (ci := 0) (by decide +kernel) (by decide +kernel) dX8_init_91 (by decide) cl_X8_17 in_X0 ii_X0 (by decide) ⟨(pv_sc.take 216).drop 213, by decide +kernel⟩ ?_
  refine EV.eqH (h2 := hC_167) rfl ?_
  refine EV.dup dX8_init_94 rfl ?_
  refine EV.invN (As := []) (st := [.inr (.inr 212), .inl (3), .inr (.inr 163)]) (d1 := d - 1) (sh1 := (pv_sc.take 216)) (h1 := hC_168) (r1 := none) dX8_init_95 md_X0_init mn_X8_45 im_X0_init rfl (ct_X0 (d := d - 1) (sh := (pv_sc.take 213)) (sh2 := (pv_sc.take 216)) (n := 213) (by decide +kernel) (by decide +kernel) (by decide) (by omega) (by decide +kernel)) (by omega) rfl rfl (Nat.le_of_ble_eq_true rfl) ⟨(pv_sc.take 216).drop 216, by decide +kernel⟩ ?_
  refine EV.aast (a := 6) (ci := 0) (n := 4) dX8_init_98 (by decide +kernel) (by decide) (by decide +kernel) (by decide) (by decide) ?_
  refine EV.eqH (h2 := hC_169) rfl ?_
  refine EV.iinc dX8_init_99 rfl (by decide) ?_
  refine EV.eqL (L2 := [some (.inr (.inr 161)), some (.inl (4))]) (by decide +kernel) ?_
  refine EV.goto (tgt := 81) dX8_init_102 (by decide) ?_
  refine EV.iload_n dX8_init_81 rfl rfl ?_
  refine EV.iconst dX8_init_82 (by decide) (by decide) ?_
  refine EV.icmp_ge (tgt := 105) dX8_init_83 (by decide) (fun _ => ?_) (fun q => absurd (by decide) q)
  exact EV.vret dX8_init_105

theorem ct_hC_0 {d : Nat} (hd : 4 ≤ d) : CALL yX9_init cX9_init 2 none d (pv_sc.take 1) hC_0 [.inr (.inr 0)] (pv_sc.take 224) hC_182 none := by
  refine EV.call (own := RX9) (ini := true) rfl rfl (fun _ => rfl) ⟨(pv_sc.take 224).drop 1, by decide +kernel⟩ (Nat.le_of_ble_eq_true rfl) ?_
  refine EV.eqL (L2 := [some (.inr (.inr 0)), none]) rfl ?_
  refine EV.aload_n dX9_init_0 rfl rfl ?_
  refine EV.obj dX9_init_1 ml_X9_1 w_oii w_oic (by omega) (Nat.le_of_ble_eq_true rfl) ?_
  refine EV.aload_n dX9_init_4 rfl rfl ?_
  refine EV.newoC (n := 1) (sh2 := (pv_sc.take 2)) (ci := 4) (by decide +kernel) (by decide +kernel) dX9_init_5 (by decide) cl_X9_7 in_X4 ii_X4 (by decide) ⟨(pv_sc.take 224).drop 2, by decide +kernel⟩ ?_
  refine EV.eqH (h2 := hC_1) rfl ?_
  refine EV.dup dX9_init_8 rfl ?_
  refine EV.invN (As := []) (st := [.inr (.inr 1), .inr (.inr 0)]) (d1 := d - 1) (sh1 := (pv_sc.take 20)) (h1 := hC_16) (r1 := none) dX9_init_9 md_X4_init mn_X9_9 im_X4_init rfl (ct_hC_1 (by omega)) (by omega) rfl rfl (Nat.le_of_ble_eq_true rfl) ⟨(pv_sc.take 224).drop 20, by decide +kernel⟩ ?_
  refine EV.putF dX9_init_12 (by decide +kernel) fl_9_10 rfl rfl rfl ⟨rfl, by decide +kernel, rfl⟩ ?_
  refine EV.eqH (h2 := hC_17) rfl ?_
  refine EV.aload_n dX9_init_15 rfl rfl ?_
  refine EV.newoC (n := 20) (sh2 := (pv_sc.take 21)) (ci := 8) (by decide +kernel) (by decide +kernel) dX9_init_16 (by decide) cl_X9_16 in_X8 ii_X8 (by decide) ⟨(pv_sc.take 224).drop 21, by decide +kernel⟩ ?_
  refine EV.eqH (h2 := hC_18) rfl ?_
  refine EV.dup dX9_init_19 rfl ?_
  refine EV.invI (As := []) (st := [.inr (.inr 20), .inr (.inr 0)]) (d1 := d - 1) (sh1 := (pv_sc.take 75)) (h1 := hC_55) (r1 := none) dX9_init_20 md_X8_init ml_X9_18 im_X8_init rfl (ct_hC_20 (by omega)) (by omega) rfl rfl (Nat.le_of_ble_eq_true rfl) ⟨(pv_sc.take 224).drop 75, by decide +kernel⟩ ?_
  refine EV.putF dX9_init_23 (by decide +kernel) fl_9_19 rfl rfl rfl ⟨rfl, by decide +kernel, rfl⟩ ?_
  refine EV.eqH (h2 := hC_56) rfl ?_
  refine EV.aload_n dX9_init_26 rfl rfl ?_
  refine EV.iconst dX9_init_27 (by decide) (by decide) ?_
  refine EV.newaC7 (n := 75) (m := 2) (sh2 := (pv_sc.take 76)) (by decide +kernel) rfl (by decide +kernel) dX9_init_28 cl_X9_16 (by decide) (by decide) (by decide) ⟨(pv_sc.take 224).drop 76, by decide +kernel⟩ ?_
  refine EV.eqH (h2 := hC_57) rfl ?_
  refine EV.putF dX9_init_31 (by decide +kernel) fl_9_23 rfl rfl rfl ⟨rfl, by decide +kernel, rfl⟩ ?_
  refine EV.eqH (h2 := hC_58) rfl ?_
  refine EV.aload_n dX9_init_34 rfl rfl ?_
  refine EV.iconst dX9_init_35 (by decide) (by decide) ?_
  refine EV.newaC8 (n := 76) (m := 4) (sh2 := (pv_sc.take 77)) (by decide +kernel) rfl (by decide +kernel) dX9_init_36 cl_X9_27 (by decide) (by decide) (by decide) ⟨(pv_sc.take 224).drop 77, by decide +kernel⟩ ?_
  refine EV.eqH (h2 := hC_59) rfl ?_
  refine EV.putF dX9_init_39 (by decide +kernel) fl_9_29 rfl rfl rfl ⟨rfl, by decide +kernel, rfl⟩ ?_
  refine EV.eqH (h2 := hC_60) rfl ?_
  refine EV.aload_n dX9_init_42 rfl rfl ?_
  refine EV.bipush dX9_init_43 (by decide) (by decide) ?_
  refine EV.newaC1 (n := 77) (m := 8) (sh2 := (pv_sc.take 78)) (by decide +kernel) rfl (by decide +kernel) dX9_init_45 w_ar_int (by decide) (by decide) (by decide) ⟨(pv_sc.take 224).drop 78, by decide +kernel⟩ ?_
  refine EV.eqH (h2 := hC_61) rfl ?_
  refine EV.putF dX9_init_47 (by decide +kernel) fl_9_33 rfl rfl rfl ⟨rfl, by decide +kernel, rfl⟩ ?_
  refine EV.eqH (h2 := hC_62) rfl ?_
  refine EV.aload_n dX9_init_50 rfl rfl ?_
  refine EV.newoC (n := 78) (sh2 := (pv_sc.take 79)) (ci := 1) (by decide +kernel) (by decide +kernel) dX9_init_51 (by decide) cl_X9_37 in_X1 ii_X1 (by decide) ⟨(pv_sc.take 224).drop 79, by decide +kernel⟩ ?_
  refine EV.eqH (h2 := hC_63) rfl ?_
  refine EV.dup dX9_init_54 rfl ?_
  refine EV.invN (As := []) (st := [.inr (.inr 78), .inr (.inr 0)]) (d1 := d - 1) (sh1 := (pv_sc.take 99)) (h1 := hC_86) (r1 := none) dX9_init_55 md_X1_init mn_X9_39 im_X1_init rfl (ct_hC_78 (by omega)) (by omega) rfl rfl (Nat.le_of_ble_eq_true rfl) ⟨(pv_sc.take 224).drop 99, by decide +kernel⟩ ?_
  refine EV.putF dX9_init_58 (by decide +kernel) fl_9_40 rfl rfl rfl ⟨rfl, by decide +kernel, rfl⟩ ?_
  refine EV.eqH (h2 := hC_87) rfl ?_
  refine EV.aload_n dX9_init_61 rfl rfl ?_
  refine EV.newoC (n := 99) (sh2 := (pv_sc.take 100)) (ci := 5) (by decide +kernel) (by decide +kernel) dX9_init_62 (by decide) cl_X9_44 in_X5 ii_X5 (by decide) ⟨(pv_sc.take 224).drop 100, by decide +kernel⟩ ?_
  refine EV.eqH (h2 := hC_88) rfl ?_
  refine EV.dup dX9_init_65 rfl ?_
  refine EV.invN (As := []) (st := [.inr (.inr 99), .inr (.inr 0)]) (d1 := d - 1) (sh1 := (pv_sc.take 105)) (h1 := hC_89) (r1 := none) dX9_init_66 md_X5_init mn_X9_46 im_X5_init rfl (ct_X5 (d := d - 1) (sh := (pv_sc.take 100)) (sh2 := (pv_sc.take 105)) (n := 100) (by decide +kernel) (by decide +kernel) (by decide) (by omega) (by decide +kernel)) (by omega) rfl rfl (Nat.le_of_ble_eq_true rfl) ⟨(pv_sc.take 224).drop 105, by decide +kernel⟩ ?_
  refine EV.putF dX9_init_69 (by decide +kernel) fl_9_47 rfl rfl rfl ⟨rfl, by decide +kernel, rfl⟩ ?_
  refine EV.eqH (h2 := hC_90) rfl ?_
  refine EV.aload_n dX9_init_72 rfl rfl ?_
  refine EV.bipush dX9_init_73 (by decide) (by decide) ?_
  refine EV.newaC1 (n := 105) (m := 60) (sh2 := (pv_sc.take 106)) (by decide +kernel) rfl (by decide +kernel) dX9_init_75 w_ar_int (by decide) (by decide) (by decide) ⟨(pv_sc.take 224).drop 106, by decide +kernel⟩ ?_
  refine EV.eqH (h2 := hC_91) rfl ?_
  refine EV.putF dX9_init_77 (by decide +kernel) fl_9_51 rfl rfl rfl ⟨rfl, by decide +kernel, rfl⟩ ?_
  refine EV.eqH (h2 := hC_92) rfl ?_
  refine EV.iconst dX9_init_80 (by decide) (by decide) ?_
  refine EV.istore_n dX9_init_81 rfl (by decide) ?_
  refine EV.eqL (L2 := [some (.inr (.inr 0)), some (.inl (0))]) rfl ?_
  refine EV.iload_n dX9_init_82 rfl rfl ?_
  refine EV.iconst dX9_init_83 (by decide) (by decide) ?_
  refine EV.icmp_ge (tgt := 106) dX9_init_84 (by decide) (fun q => absurd q (by decide)) (fun _ => ?_)
  refine EV.aload_n dX9_init_87 rfl rfl ?_
  refine EV.getV (v := 75) dX9_init_88 (by decide +kernel) fl_9_23 rfl (by decide +kernel) ?_
  refine EV.iload_n dX9_init_91 rfl rfl ?_
  refine EV.newoC (n := 106) (sh2 := (pv_sc.take 107)) (ci := 8) (by decide +kernel) (by decide +kernel) dX9_init_92 (by decide) cl_X9_16 in_X8 ii_X8 (by decide) ⟨(pv_sc.take 224).drop 107, by decide +kernel⟩ ?_
  refine EV.eqH (h2 := hC_93) rfl ?_
  refine EV.dup dX9_init_95 rfl ?_
  refine EV.invI (As := []) (st := [.inr (.inr 106), .inl (0), .inr (.inr 75)]) (d1 := d - 1) (sh1 := (pv_sc.take 161)) (h1 := hC_130) (r1 := none) dX9_init_96 md_X8_init ml_X9_18 im_X8_init rfl (ct_hC_106 (by omega)) (by omega) rfl rfl (Nat.le_of_ble_eq_true rfl) ⟨(pv_sc.take 224).drop 161, by decide +kernel⟩ ?_
  refine EV.aast (a := 7) (ci := 8) (n := 2) dX9_init_99 (by decide +kernel) (by decide) (by decide +kernel) (by decide) (by decide) ?_
  refine EV.eqH (h2 := hC_131) rfl ?_
  refine EV.iinc dX9_init_100 rfl (by decide) ?_
  refine EV.eqL (L2 := [some (.inr (.inr 0)), some (.inl (1))]) (by decide +kernel) ?_
  refine EV.goto (tgt := 82) dX9_init_103 (by decide) ?_
  refine EV.iload_n dX9_init_82 rfl rfl ?_
  refine EV.iconst dX9_init_83 (by decide) (by decide) ?_
  refine EV.icmp_ge (tgt := 106) dX9_init_84 (by decide) (fun q => absurd q (by decide)) (fun _ => ?_)
  refine EV.aload_n dX9_init_87 rfl rfl ?_
  refine EV.getV (v := 75) dX9_init_88 (by decide +kernel) fl_9_23 rfl (by decide +kernel) ?_
  refine EV.iload_n dX9_init_91 rfl rfl ?_
  refine EV.newoC (n := 161) (sh2 := (pv_sc.take 162)) (ci := 8) (by decide +kernel) (by decide +kernel) dX9_init_92 (by decide) cl_X9_16 in_X8 ii_X8 (by decide) ⟨(pv_sc.take 224).drop 162, by decide +kernel⟩ ?_
  refine EV.eqH (h2 := hC_132) rfl ?_
  refine EV.dup dX9_init_95 rfl ?_
  refine EV.invI (As := []) (st := [.inr (.inr 161), .inl (1), .inr (.inr 75)]) (d1 := d - 1) (sh1 := (pv_sc.take 216)) (h1 := hC_169) (r1 := none) dX9_init_96 md_X8_init ml_X9_18 im_X8_init rfl (ct_hC_161 (by omega)) (by omega) rfl rfl (Nat.le_of_ble_eq_true rfl) ⟨(pv_sc.take 224).drop 216, by decide +kernel⟩ ?_
  refine EV.aast (a := 7) (ci := 8) (n := 2) dX9_init_99 (by decide +kernel) (by decide) (by decide +kernel) (by decide) (by decide) ?_
  refine EV.eqH (h2 := hC_170) rfl ?_
  refine EV.iinc dX9_init_100 rfl (by decide) ?_
  refine EV.eqL (L2 := [some (.inr (.inr 0)), some (.inl (2))]) (by decide +kernel) ?_
  refine EV.goto (tgt := 82) dX9_init_103 (by decide) ?_
  refine EV.iload_n dX9_init_82 rfl rfl ?_
  refine EV.iconst dX9_init_83 (by decide) (by decide) ?_
  refine EV.icmp_ge (tgt := 106) dX9_init_84 (by decide) (fun _ => ?_) (fun q => absurd (by decide) q)
  refine EV.iconst dX9_init_106 (by decide) (by decide) ?_
  refine EV.istore_n dX9_init_107 rfl (by decide) ?_
  refine EV.eqL (L2 := [some (.inr (.inr 0)), some (.inl (0))]) rfl ?_
  refine EV.iload_n dX9_init_108 rfl rfl ?_
  refine EV.iconst dX9_init_109 (by decide) (by decide) ?_
  refine EV.icmp_ge (tgt := 132) dX9_init_110 (by decide) (fun q => absurd q (by decide)) (fun _ => ?_)
  refine EV.aload_n dX9_init_113 rfl rfl ?_
  refine EV.getV (v := 76) dX9_init_114 (by decide +kernel) fl_9_29 rfl (by decide +kernel) ?_
  refine EV.iload_n dX9_init_117 rfl rfl ?_
  refine EV.newoC (n := 216) (sh2 := (pv_sc.take 217)) (ci := 6) (by decide +kernel) (by decide +kernel) dX9_init_118 (by decide) cl_X9_27 in_X6 ii_X6 (by decide) ⟨(pv_sc.take 224).drop 217, by decide +kernel⟩ ?_
  refine EV.eqH (h2 := hC_171) rfl ?_
  refine EV.dup dX9_init_121 rfl ?_
  refine EV.invN (As := []) (st := [.inr (.inr 216), .inl (0), .inr (.inr 76)]) (d1 := d - 1) (sh1 := (pv_sc.take 218)) (h1 := hC_172) (r1 := none) dX9_init_122 md_X6_init mn_X9_54 im_X6_init rfl (ct_X6 (d := d - 1) (sh := (pv_sc.take 217)) (sh2 := (pv_sc.take 218)) (n := 217) (by decide +kernel) (by decide +kernel) (by decide) (by omega) (by decide +kernel)) (by omega) rfl rfl (Nat.le_of_ble_eq_true rfl) ⟨(pv_sc.take 224).drop 218, by decide +kernel⟩ ?_
  refine EV.aast (a := 8) (ci := 6) (n := 4) dX9_init_125 (by decide +kernel) (by decide) (by decide +kernel) (by decide) (by decide) ?_
  refine EV.eqH (h2 := hC_173) rfl ?_
  refine EV.iinc dX9_init_126 rfl (by decide) ?_
  refine EV.eqL (L2 := [some (.inr (.inr 0)), some (.inl (1))]) (by decide +kernel) ?_
  refine EV.goto (tgt := 108) dX9_init_129 (by decide) ?_
  refine EV.iload_n dX9_init_108 rfl rfl ?_
  refine EV.iconst dX9_init_109 (by decide) (by decide) ?_
  refine EV.icmp_ge (tgt := 132) dX9_init_110 (by decide) (fun q => absurd q (by decide)) (fun _ => ?_)
  refine EV.aload_n dX9_init_113 rfl rfl ?_
  refine EV.getV (v := 76) dX9_init_114 (by decide +kernel) fl_9_29 rfl (by decide +kernel) ?_
  refine EV.iload_n dX9_init_117 rfl rfl ?_
  refine EV.newoC (n := 218) (sh2 := (pv_sc.take 219)) (ci := 6) (by decide +kernel) (by decide +kernel) dX9_init_118 (by decide) cl_X9_27 in_X6 ii_X6 (by decide) ⟨(pv_sc.take 224).drop 219, by decide +kernel⟩ ?_
  refine EV.eqH (h2 := hC_174) rfl ?_
  refine EV.dup dX9_init_121 rfl ?_
  refine EV.invN (As := []) (st := [.inr (.inr 218), .inl (1), .inr (.inr 76)]) (d1 := d - 1) (sh1 := (pv_sc.take 220)) (h1 := hC_175) (r1 := none) dX9_init_122 md_X6_init mn_X9_54 im_X6_init rfl (ct_X6 (d := d - 1) (sh := (pv_sc.take 219)) (sh2 := (pv_sc.take 220)) (n := 219) (by decide +kernel) (by decide +kernel) (by decide) (by omega) (by decide +kernel)) (by omega) rfl rfl (Nat.le_of_ble_eq_true rfl) ⟨(pv_sc.take 224).drop 220, by decide +kernel⟩ ?_
  refine EV.aast (a := 8) (ci := 6) (n := 4) dX9_init_125 (by decide +kernel) (by decide) (by decide +kernel) (by decide) (by decide) ?_
  refine EV.eqH (h2 := hC_176) rfl ?_
  refine EV.iinc dX9_init_126 rfl (by decide) ?_
  refine EV.eqL (L2 := [some (.inr (.inr 0)), some (.inl (2))]) (by decide +kernel) ?_
  refine EV.goto (tgt := 108) dX9_init_129 (by decide) ?_
  refine EV.iload_n dX9_init_108 rfl rfl ?_
  refine EV.iconst dX9_init_109 (by decide) (by decide) ?_
  refine EV.icmp_ge (tgt := 132) dX9_init_110 (by decide) (fun q => absurd q (by decide)) (fun _ => ?_)
  refine EV.aload_n dX9_init_113 rfl rfl ?_
  refine EV.getV (v := 76) dX9_init_114 (by decide +kernel) fl_9_29 rfl (by decide +kernel) ?_
  refine EV.iload_n dX9_init_117 rfl rfl ?_
  refine EV.newoC (n := 220) (sh2 := (pv_sc.take 221)) (ci := 6) (by decide +kernel) (by decide +kernel) dX9_init_118 (by decide) cl_X9_27 in_X6 ii_X6 (by decide) ⟨(pv_sc.take 224).drop 221, by decide +kernel⟩ ?_
  refine EV.eqH (h2 := hC_177) rfl ?_
  refine EV.dup dX9_init_121 rfl ?_
  refine EV.invN (As := []) (st := [.inr (.inr 220), .inl (2), .inr (.inr 76)]) (d1 := d - 1) (sh1 := (pv_sc.take 222)) (h1 := hC_178) (r1 := none) dX9_init_122 md_X6_init mn_X9_54 im_X6_init rfl (ct_X6 (d := d - 1) (sh := (pv_sc.take 221)) (sh2 := (pv_sc.take 222)) (n := 221) (by decide +kernel) (by decide +kernel) (by decide) (by omega) (by decide +kernel)) (by omega) rfl rfl (Nat.le_of_ble_eq_true rfl) ⟨(pv_sc.take 224).drop 222, by decide +kernel⟩ ?_
  refine EV.aast (a := 8) (ci := 6) (n := 4) dX9_init_125 (by decide +kernel) (by decide) (by decide +kernel) (by decide) (by decide) ?_
  refine EV.eqH (h2 := hC_179) rfl ?_
  refine EV.iinc dX9_init_126 rfl (by decide) ?_
  refine EV.eqL (L2 := [some (.inr (.inr 0)), some (.inl (3))]) (by decide +kernel) ?_
  refine EV.goto (tgt := 108) dX9_init_129 (by decide) ?_
  refine EV.iload_n dX9_init_108 rfl rfl ?_
  refine EV.iconst dX9_init_109 (by decide) (by decide) ?_
  refine EV.icmp_ge (tgt := 132) dX9_init_110 (by decide) (fun q => absurd q (by decide)) (fun _ => ?_)
  refine EV.aload_n dX9_init_113 rfl rfl ?_
  refine EV.getV (v := 76) dX9_init_114 (by decide +kernel) fl_9_29 rfl (by decide +kernel) ?_
  refine EV.iload_n dX9_init_117 rfl rfl ?_
  refine EV.newoC (n := 222) (sh2 := (pv_sc.take 223)) (ci := 6) (by decide +kernel) (by decide +kernel) dX9_init_118 (by decide) cl_X9_27 in_X6 ii_X6 (by decide) ⟨(pv_sc.take 224).drop 223, by decide +kernel⟩ ?_
  refine EV.eqH (h2 := hC_180) rfl ?_
  refine EV.dup dX9_init_121 rfl ?_
  refine EV.invN (As := []) (st := [.inr (.inr 222), .inl (3), .inr (.inr 76)]) (d1 := d - 1) (sh1 := (pv_sc.take 224)) (h1 := hC_181) (r1 := none) dX9_init_122 md_X6_init mn_X9_54 im_X6_init rfl (ct_X6 (d := d - 1) (sh := (pv_sc.take 223)) (sh2 := (pv_sc.take 224)) (n := 223) (by decide +kernel) (by decide +kernel) (by decide) (by omega) (by decide +kernel)) (by omega) rfl rfl (Nat.le_of_ble_eq_true rfl) ⟨(pv_sc.take 224).drop 224, by decide +kernel⟩ ?_
  refine EV.aast (a := 8) (ci := 6) (n := 4) dX9_init_125 (by decide +kernel) (by decide) (by decide +kernel) (by decide) (by decide) ?_
  refine EV.eqH (h2 := hC_182) rfl ?_
  refine EV.iinc dX9_init_126 rfl (by decide) ?_
  refine EV.eqL (L2 := [some (.inr (.inr 0)), some (.inl (4))]) (by decide +kernel) ?_
  refine EV.goto (tgt := 108) dX9_init_129 (by decide) ?_
  refine EV.iload_n dX9_init_108 rfl rfl ?_
  refine EV.iconst dX9_init_109 (by decide) (by decide) ?_
  refine EV.icmp_ge (tgt := 132) dX9_init_110 (by decide) (fun _ => ?_) (fun q => absurd (by decide) q)
  exact EV.vret dX9_init_132
