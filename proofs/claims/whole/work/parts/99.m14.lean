/-! more numbers, kinds, the fields while objects are made -/
def ftB (ci : Nat) : List (Nat × Nat) := (ftJ ci).map (fun d => if 3 ≤ d.1 then (3, 0) else d)
abbrev tyB (cy : Nat → ClassId) : List (ClassId × FieldType) := tyC cy
theorem tyB_ok (cy : Nat → ClassId) : jTy (tyB cy) cy := tyC_ok cy
theorem rk_121 : ri_ 121 := by unfold ri_; omega
theorem rk_144 : ri_ 144 := by unfold ri_; omega
theorem rk_360 : ri_ 360 := by unfold ri_; omega
theorem rk_401 : ri_ 401 := by unfold ri_; omega
theorem rk_480 : ri_ 480 := by unfold ri_; omega
theorem rk_500 : ri_ 500 := by unfold ri_; omega
theorem rk_640 : ri_ 640 := by unfold ri_; omega
theorem rk_1536 : ri_ 1536 := by unfold ri_; omega
theorem rk_2000 : ri_ 2000 := by unfold ri_; omega
theorem rk_4001 : ri_ 4001 := by unfold ri_; omega
theorem rk_4108 : ri_ 4108 := by unfold ri_; omega
theorem rk_9600 : ri_ 9600 := by unfold ri_; omega
theorem rk_20000 : ri_ 20000 := by unfold ri_; omega
theorem rk_38500 : ri_ 38500 := by unfold ri_; omega
theorem rk_52800 : ri_ 52800 := by unfold ri_; omega
theorem rk_160000 : ri_ 160000 := by unfold ri_; omega
theorem lk_26990 : rl_ 26990 := by unfold rl_; omega
theorem lk_26995 : rl_ 26995 := by unfold rl_; omega
theorem lk_26996 : rl_ 26996 := by unfold rl_; omega
theorem lk_28530 : rl_ 28530 := by unfold rl_; omega
theorem lk_6384748 : rl_ 6384748 := by unfold rl_; omega
theorem lk_6385252 : rl_ 6385252 := by unfold rl_; omega
theorem lk_6776180 : rl_ 6776180 := by unfold rl_; omega
theorem lk_7237492 : rl_ 7237492 := by unfold rl_; omega
theorem lk_7305070 : rl_ 7305070 := by unfold rl_; omega
theorem lk_7566701 : rl_ 7566701 := by unfold rl_; omega
theorem lk_1700881256 : rl_ 1700881256 := by unfold rl_; omega
theorem lk_1718775661 : rl_ 1718775661 := by unfold rl_; omega
theorem lk_1751477348 : rl_ 1751477348 := by unfold rl_; omega
theorem lk_1801810036 : rl_ 1801810036 := by unfold rl_; omega
theorem lk_1836020596 : rl_ 1836020596 := by unfold rl_; omega
theorem lk_1853189228 : rl_ 1853189228 := by unfold rl_; omega
theorem lk_1936292453 : rl_ 1936292453 := by unfold rl_; omega
theorem lk_1936682341 : rl_ 1936682341 := by unfold rl_; omega
theorem lk_1953658213 : rl_ 1953658213 := by unfold rl_; omega
theorem lk_4294967295 : rl_ 4294967295 := by unfold rl_; omega
theorem lk_427020088179 : rl_ 427020088179 := by unfold rl_; omega
theorem lk_427071729268 : rl_ 427071729268 := by unfold rl_; omega
theorem lk_431198598248 : rl_ 431198598248 := by unfold rl_; omega
theorem lk_439721161573 : rl_ 439721161573 := by unfold rl_; omega
theorem lk_465557353332 : rl_ 465557353332 := by unfold rl_; omega
theorem lk_495740482675 : rl_ 495740482675 := by unfold rl_; omega
theorem lk_499967946343 : rl_ 499967946343 := by unfold rl_; omega
theorem lk_512852587109 : rl_ 512852587109 := by unfold rl_; omega
theorem lk_119182899770472 : rl_ 119182899770472 := by unfold rl_; omega
theorem lk_127991794263923 : rl_ 127991794263923 := by unfold rl_; omega
theorem kK_0 : ksK[0]? = some (6, 14) := by decide +kernel
theorem kK_1 : ksK[1]? = some (6, 12) := by decide +kernel
theorem kK_2 : ksK[2]? = some (0, 4000) := by decide +kernel
theorem kK_3 : ksK[3]? = some (0, 20) := by decide +kernel
theorem kK_4 : ksK[4]? = some (0, 4001) := by decide +kernel
theorem kK_5 : ksK[5]? = some (0, 4001) := by decide +kernel
theorem kK_6 : ksK[6]? = some (1, 4001) := by decide +kernel
theorem kK_7 : ksK[7]? = some (1, 29) := by decide +kernel
theorem kK_8 : ksK[8]? = some (6, 13) := by decide +kernel
theorem kK_9 : ksK[9]? = some (1, 16) := by decide +kernel
theorem kK_10 : ksK[10]? = some (0, 16) := by decide +kernel
theorem kK_11 : ksK[11]? = some (0, 16) := by decide +kernel
theorem kK_12 : ksK[12]? = some (2, 16) := by decide +kernel
theorem kK_13 : ksK[13]? = some (2, 16) := by decide +kernel
theorem kK_14 : ksK[14]? = some (0, 16) := by decide +kernel
theorem kK_15 : ksK[15]? = some (0, 16) := by decide +kernel
theorem kK_16 : ksK[16]? = some (0, 16) := by decide +kernel
theorem kK_17 : ksK[17]? = some (0, 16) := by decide +kernel
theorem kK_18 : ksK[18]? = some (1, 96) := by decide +kernel
theorem kK_19 : ksK[19]? = some (0, 96) := by decide +kernel
theorem kK_20 : ksK[20]? = some (0, 96) := by decide +kernel
theorem kK_21 : ksK[21]? = some (2, 96) := by decide +kernel
theorem kK_22 : ksK[22]? = some (0, 96) := by decide +kernel
theorem kK_23 : ksK[23]? = some (1, 1536) := by decide +kernel
theorem kK_24 : ksK[24]? = some (0, 1536) := by decide +kernel
theorem kK_25 : ksK[25]? = some (0, 1536) := by decide +kernel
theorem kK_26 : ksK[26]? = some (6, 5) := by decide +kernel
theorem kK_27 : ksK[27]? = some (0, 400) := by decide +kernel
theorem kK_28 : ksK[28]? = some (0, 400) := by decide +kernel
theorem kK_29 : ksK[29]? = some (0, 400) := by decide +kernel
theorem kK_30 : ksK[30]? = some (1, 4000) := by decide +kernel
theorem kK_31 : ksK[31]? = some (2, 4000) := by decide +kernel
theorem kK_32 : ksK[32]? = some (1, 96) := by decide +kernel
theorem kK_33 : ksK[33]? = some (0, 12) := by decide +kernel
theorem kK_34 : ksK[34]? = some (0, 400) := by decide +kernel
theorem kK_35 : ksK[35]? = some (0, 400) := by decide +kernel
theorem kK_36 : ksK[36]? = some (6, 6) := by decide +kernel
theorem kK_37 : ksK[37]? = some (0, 100) := by decide +kernel
theorem kK_38 : ksK[38]? = some (0, 100) := by decide +kernel
theorem kK_39 : ksK[39]? = some (1, 100) := by decide +kernel
theorem kK_40 : ksK[40]? = some (0, 6) := by decide +kernel
theorem kK_41 : ksK[41]? = some (0, 6) := by decide +kernel
theorem kK_42 : ksK[42]? = some (0, 6) := by decide +kernel
theorem kK_43 : ksK[43]? = some (0, 6) := by decide +kernel
theorem kK_44 : ksK[44]? = some (1, 144) := by decide +kernel
theorem kK_45 : ksK[45]? = some (4, 4) := by decide +kernel
theorem kK_46 : ksK[46]? = some (6, 8) := by decide +kernel
theorem kK_47 : ksK[47]? = some (0, 400) := by decide +kernel
theorem kK_48 : ksK[48]? = some (0, 400) := by decide +kernel
theorem kK_49 : ksK[49]? = some (0, 400) := by decide +kernel
theorem kK_50 : ksK[50]? = some (0, 401) := by decide +kernel
theorem kK_51 : ksK[51]? = some (0, 400) := by decide +kernel
theorem kK_52 : ksK[52]? = some (0, 400) := by decide +kernel
theorem kK_53 : ksK[53]? = some (0, 400) := by decide +kernel
theorem kK_54 : ksK[54]? = some (0, 400) := by decide +kernel
theorem kK_55 : ksK[55]? = some (1, 4000) := by decide +kernel
theorem kK_56 : ksK[56]? = some (2, 4000) := by decide +kernel
theorem kK_57 : ksK[57]? = some (0, 108) := by decide +kernel
theorem kK_58 : ksK[58]? = some (0, 108) := by decide +kernel
theorem kK_59 : ksK[59]? = some (2, 400) := by decide +kernel
theorem kK_60 : ksK[60]? = some (0, 400) := by decide +kernel
theorem kK_61 : ksK[61]? = some (0, 400) := by decide +kernel
theorem kK_62 : ksK[62]? = some (0, 400) := by decide +kernel
theorem kK_63 : ksK[63]? = some (0, 400) := by decide +kernel
theorem kK_64 : ksK[64]? = some (6, 11) := by decide +kernel
theorem kK_65 : ksK[65]? = some (0, 401) := by decide +kernel
theorem kK_66 : ksK[66]? = some (0, 4108) := by decide +kernel
theorem kK_67 : ksK[67]? = some (0, 4108) := by decide +kernel
theorem kK_68 : ksK[68]? = some (0, 400) := by decide +kernel
theorem kK_69 : ksK[69]? = some (0, 400) := by decide +kernel
theorem kK_70 : ksK[70]? = some (0, 400) := by decide +kernel
theorem kK_71 : ksK[71]? = some (0, 400) := by decide +kernel
theorem kK_72 : ksK[72]? = some (0, 400) := by decide +kernel
theorem kK_73 : ksK[73]? = some (0, 400) := by decide +kernel
theorem kK_74 : ksK[74]? = some (0, 400) := by decide +kernel
theorem kK_75 : ksK[75]? = some (0, 400) := by decide +kernel
theorem kK_76 : ksK[76]? = some (0, 400) := by decide +kernel
theorem kK_77 : ksK[77]? = some (0, 400) := by decide +kernel
theorem kK_78 : ksK[78]? = some (0, 512) := by decide +kernel
theorem kK_79 : ksK[79]? = some (6, 8) := by decide +kernel
theorem kK_80 : ksK[80]? = some (0, 400) := by decide +kernel
theorem kK_81 : ksK[81]? = some (0, 400) := by decide +kernel
theorem kK_82 : ksK[82]? = some (0, 400) := by decide +kernel
theorem kK_83 : ksK[83]? = some (0, 401) := by decide +kernel
theorem kK_84 : ksK[84]? = some (0, 400) := by decide +kernel
theorem kK_85 : ksK[85]? = some (0, 400) := by decide +kernel
theorem kK_86 : ksK[86]? = some (0, 400) := by decide +kernel
theorem kK_87 : ksK[87]? = some (0, 400) := by decide +kernel
theorem kK_88 : ksK[88]? = some (1, 4000) := by decide +kernel
theorem kK_89 : ksK[89]? = some (2, 4000) := by decide +kernel
theorem kK_90 : ksK[90]? = some (0, 108) := by decide +kernel
theorem kK_91 : ksK[91]? = some (0, 108) := by decide +kernel
theorem kK_92 : ksK[92]? = some (2, 400) := by decide +kernel
theorem kK_93 : ksK[93]? = some (0, 400) := by decide +kernel
theorem kK_94 : ksK[94]? = some (0, 400) := by decide +kernel
theorem kK_95 : ksK[95]? = some (0, 400) := by decide +kernel
theorem kK_96 : ksK[96]? = some (0, 400) := by decide +kernel
theorem kK_97 : ksK[97]? = some (6, 11) := by decide +kernel
theorem kK_98 : ksK[98]? = some (0, 401) := by decide +kernel
theorem kK_99 : ksK[99]? = some (0, 4108) := by decide +kernel
theorem kK_100 : ksK[100]? = some (0, 4108) := by decide +kernel
theorem kK_101 : ksK[101]? = some (0, 400) := by decide +kernel
theorem kK_102 : ksK[102]? = some (0, 400) := by decide +kernel
theorem kK_103 : ksK[103]? = some (0, 400) := by decide +kernel
theorem kK_104 : ksK[104]? = some (0, 400) := by decide +kernel
theorem kK_105 : ksK[105]? = some (0, 400) := by decide +kernel
theorem kK_106 : ksK[106]? = some (0, 400) := by decide +kernel
theorem kK_107 : ksK[107]? = some (0, 400) := by decide +kernel
theorem kK_108 : ksK[108]? = some (0, 400) := by decide +kernel
theorem kK_109 : ksK[109]? = some (0, 400) := by decide +kernel
theorem kK_110 : ksK[110]? = some (0, 400) := by decide +kernel
theorem kK_111 : ksK[111]? = some (0, 512) := by decide +kernel
theorem kK_112 : ksK[112]? = some (6, 8) := by decide +kernel
theorem kK_113 : ksK[113]? = some (0, 400) := by decide +kernel
theorem kK_114 : ksK[114]? = some (0, 400) := by decide +kernel
theorem kK_115 : ksK[115]? = some (0, 400) := by decide +kernel
theorem kK_116 : ksK[116]? = some (0, 401) := by decide +kernel
theorem kK_117 : ksK[117]? = some (0, 400) := by decide +kernel
theorem kK_118 : ksK[118]? = some (0, 400) := by decide +kernel
theorem kK_119 : ksK[119]? = some (0, 400) := by decide +kernel
theorem kK_120 : ksK[120]? = some (0, 400) := by decide +kernel
theorem kK_121 : ksK[121]? = some (1, 4000) := by decide +kernel
theorem kK_122 : ksK[122]? = some (2, 4000) := by decide +kernel
theorem kK_123 : ksK[123]? = some (0, 108) := by decide +kernel
theorem kK_124 : ksK[124]? = some (0, 108) := by decide +kernel
theorem kK_125 : ksK[125]? = some (2, 400) := by decide +kernel
theorem kK_126 : ksK[126]? = some (0, 400) := by decide +kernel
theorem kK_127 : ksK[127]? = some (0, 400) := by decide +kernel
theorem kK_128 : ksK[128]? = some (0, 400) := by decide +kernel
theorem kK_129 : ksK[129]? = some (0, 400) := by decide +kernel
theorem kK_130 : ksK[130]? = some (6, 11) := by decide +kernel
theorem kK_131 : ksK[131]? = some (0, 401) := by decide +kernel
theorem kK_132 : ksK[132]? = some (0, 4108) := by decide +kernel
theorem kK_133 : ksK[133]? = some (0, 4108) := by decide +kernel
theorem kK_134 : ksK[134]? = some (0, 400) := by decide +kernel
theorem kK_135 : ksK[135]? = some (0, 400) := by decide +kernel
theorem kK_136 : ksK[136]? = some (0, 400) := by decide +kernel
theorem kK_137 : ksK[137]? = some (0, 400) := by decide +kernel
theorem kK_138 : ksK[138]? = some (0, 400) := by decide +kernel
theorem kK_139 : ksK[139]? = some (0, 400) := by decide +kernel
theorem kK_140 : ksK[140]? = some (0, 400) := by decide +kernel
theorem kK_141 : ksK[141]? = some (0, 400) := by decide +kernel
theorem kK_142 : ksK[142]? = some (0, 400) := by decide +kernel
theorem kK_143 : ksK[143]? = some (0, 400) := by decide +kernel
theorem kK_144 : ksK[144]? = some (0, 512) := by decide +kernel
theorem kK_145 : ksK[145]? = some (6, 8) := by decide +kernel
theorem kK_146 : ksK[146]? = some (0, 400) := by decide +kernel
theorem kK_147 : ksK[147]? = some (0, 400) := by decide +kernel
theorem kK_148 : ksK[148]? = some (0, 400) := by decide +kernel
theorem kK_149 : ksK[149]? = some (0, 401) := by decide +kernel
theorem kK_150 : ksK[150]? = some (0, 400) := by decide +kernel
theorem kK_151 : ksK[151]? = some (0, 400) := by decide +kernel
theorem kK_152 : ksK[152]? = some (0, 400) := by decide +kernel
theorem kK_153 : ksK[153]? = some (0, 400) := by decide +kernel
theorem kK_154 : ksK[154]? = some (1, 4000) := by decide +kernel
theorem kK_155 : ksK[155]? = some (2, 4000) := by decide +kernel
theorem kK_156 : ksK[156]? = some (0, 108) := by decide +kernel
theorem kK_157 : ksK[157]? = some (0, 108) := by decide +kernel
theorem kK_158 : ksK[158]? = some (2, 400) := by decide +kernel
theorem kK_159 : ksK[159]? = some (0, 400) := by decide +kernel
theorem kK_160 : ksK[160]? = some (0, 400) := by decide +kernel
theorem kK_161 : ksK[161]? = some (0, 400) := by decide +kernel
theorem kK_162 : ksK[162]? = some (0, 400) := by decide +kernel
theorem kK_163 : ksK[163]? = some (6, 11) := by decide +kernel
theorem kK_164 : ksK[164]? = some (0, 401) := by decide +kernel
theorem kK_165 : ksK[165]? = some (0, 4108) := by decide +kernel
theorem kK_166 : ksK[166]? = some (0, 4108) := by decide +kernel
theorem kK_167 : ksK[167]? = some (0, 400) := by decide +kernel
theorem kK_168 : ksK[168]? = some (0, 400) := by decide +kernel
theorem kK_169 : ksK[169]? = some (0, 400) := by decide +kernel
theorem kK_170 : ksK[170]? = some (0, 400) := by decide +kernel
theorem kK_171 : ksK[171]? = some (0, 400) := by decide +kernel
theorem kK_172 : ksK[172]? = some (0, 400) := by decide +kernel
theorem kK_173 : ksK[173]? = some (0, 400) := by decide +kernel
theorem kK_174 : ksK[174]? = some (0, 400) := by decide +kernel
theorem kK_175 : ksK[175]? = some (0, 400) := by decide +kernel
theorem kK_176 : ksK[176]? = some (0, 400) := by decide +kernel
theorem kK_177 : ksK[177]? = some (0, 512) := by decide +kernel
theorem kK_178 : ksK[178]? = some (6, 8) := by decide +kernel
theorem kK_179 : ksK[179]? = some (0, 400) := by decide +kernel
theorem kK_180 : ksK[180]? = some (0, 400) := by decide +kernel
theorem kK_181 : ksK[181]? = some (0, 400) := by decide +kernel
theorem kK_182 : ksK[182]? = some (0, 401) := by decide +kernel
theorem kK_183 : ksK[183]? = some (0, 400) := by decide +kernel
theorem kK_184 : ksK[184]? = some (0, 400) := by decide +kernel
theorem kK_185 : ksK[185]? = some (0, 400) := by decide +kernel
theorem kK_186 : ksK[186]? = some (0, 400) := by decide +kernel
theorem kK_187 : ksK[187]? = some (1, 4000) := by decide +kernel
theorem kK_188 : ksK[188]? = some (2, 4000) := by decide +kernel
theorem kK_189 : ksK[189]? = some (0, 108) := by decide +kernel
theorem kK_190 : ksK[190]? = some (0, 108) := by decide +kernel
theorem kK_191 : ksK[191]? = some (2, 400) := by decide +kernel
theorem kK_192 : ksK[192]? = some (0, 400) := by decide +kernel
theorem kK_193 : ksK[193]? = some (0, 400) := by decide +kernel
theorem kK_194 : ksK[194]? = some (0, 400) := by decide +kernel
theorem kK_195 : ksK[195]? = some (0, 400) := by decide +kernel
theorem kK_196 : ksK[196]? = some (6, 11) := by decide +kernel
theorem kK_197 : ksK[197]? = some (0, 401) := by decide +kernel
theorem kK_198 : ksK[198]? = some (0, 4108) := by decide +kernel
theorem kK_199 : ksK[199]? = some (0, 4108) := by decide +kernel
theorem kK_200 : ksK[200]? = some (0, 400) := by decide +kernel
theorem kK_201 : ksK[201]? = some (0, 400) := by decide +kernel
theorem kK_202 : ksK[202]? = some (0, 400) := by decide +kernel
theorem kK_203 : ksK[203]? = some (0, 400) := by decide +kernel
theorem kK_204 : ksK[204]? = some (0, 400) := by decide +kernel
theorem kK_205 : ksK[205]? = some (0, 400) := by decide +kernel
theorem kK_206 : ksK[206]? = some (0, 400) := by decide +kernel
theorem kK_207 : ksK[207]? = some (0, 400) := by decide +kernel
theorem kK_208 : ksK[208]? = some (0, 400) := by decide +kernel
theorem kK_209 : ksK[209]? = some (0, 400) := by decide +kernel
theorem kK_210 : ksK[210]? = some (0, 512) := by decide +kernel
theorem kK_211 : ksK[211]? = some (6, 9) := by decide +kernel
theorem kK_212 : ksK[212]? = some (0, 500) := by decide +kernel
theorem kK_213 : ksK[213]? = some (0, 500) := by decide +kernel
theorem kK_214 : ksK[214]? = some (0, 500) := by decide +kernel
theorem kK_215 : ksK[215]? = some (1, 500) := by decide +kernel
theorem kK_216 : ksK[216]? = some (1, 10) := by decide +kernel
theorem kK_217 : ksK[217]? = some (0, 10) := by decide +kernel
theorem kK_218 : ksK[218]? = some (0, 120) := by decide +kernel
theorem kK_219 : ksK[219]? = some (6, 7) := by decide +kernel
theorem kK_220 : ksK[220]? = some (0, 121) := by decide +kernel
theorem kK_221 : ksK[221]? = some (1, 121) := by decide +kernel
theorem kK_222 : ksK[222]? = some (0, 11) := by decide +kernel
theorem kK_223 : ksK[223]? = some (0, 11) := by decide +kernel
theorem kK_224 : ksK[224]? = some (0, 11) := by decide +kernel
theorem kK_225 : ksK[225]? = some (0, 11) := by decide +kernel
theorem kK_226 : ksK[226]? = some (0, 11) := by decide +kernel
theorem kK_227 : ksK[227]? = some (1, 11) := by decide +kernel
theorem kK_228 : ksK[228]? = some (2, 11) := by decide +kernel
theorem kK_229 : ksK[229]? = some (0, 4400) := by decide +kernel
theorem kK_230 : ksK[230]? = some (0, 4400) := by decide +kernel
theorem kK_231 : ksK[231]? = some (0, 11) := by decide +kernel
theorem kK_232 : ksK[232]? = some (0, 4000) := by decide +kernel
theorem kK_233 : ksK[233]? = some (0, 4000) := by decide +kernel
theorem kK_234 : ksK[234]? = some (1, 4000) := by decide +kernel
theorem kK_235 : ksK[235]? = some (5, 3) := by decide +kernel
theorem kK_236 : ksK[236]? = some (6, 9) := by decide +kernel
theorem kK_237 : ksK[237]? = some (0, 500) := by decide +kernel
theorem kK_238 : ksK[238]? = some (0, 500) := by decide +kernel
theorem kK_239 : ksK[239]? = some (0, 500) := by decide +kernel
theorem kK_240 : ksK[240]? = some (1, 500) := by decide +kernel
theorem kK_241 : ksK[241]? = some (1, 10) := by decide +kernel
theorem kK_242 : ksK[242]? = some (0, 10) := by decide +kernel
theorem kK_243 : ksK[243]? = some (0, 120) := by decide +kernel
theorem kK_244 : ksK[244]? = some (6, 9) := by decide +kernel
theorem kK_245 : ksK[245]? = some (0, 500) := by decide +kernel
theorem kK_246 : ksK[246]? = some (0, 500) := by decide +kernel
theorem kK_247 : ksK[247]? = some (0, 500) := by decide +kernel
theorem kK_248 : ksK[248]? = some (1, 500) := by decide +kernel
theorem kK_249 : ksK[249]? = some (1, 10) := by decide +kernel
theorem kK_250 : ksK[250]? = some (0, 10) := by decide +kernel
theorem kK_251 : ksK[251]? = some (0, 120) := by decide +kernel
theorem kK_252 : ksK[252]? = some (6, 9) := by decide +kernel
theorem kK_253 : ksK[253]? = some (0, 500) := by decide +kernel
theorem kK_254 : ksK[254]? = some (0, 500) := by decide +kernel
theorem kK_255 : ksK[255]? = some (0, 500) := by decide +kernel
theorem kK_256 : ksK[256]? = some (1, 500) := by decide +kernel
theorem kK_257 : ksK[257]? = some (1, 10) := by decide +kernel
theorem kK_258 : ksK[258]? = some (0, 10) := by decide +kernel
theorem kK_259 : ksK[259]? = some (0, 120) := by decide +kernel
theorem kK_260 : ksK[260]? = some (0, 3) := by decide +kernel
theorem kK_261 : ksK[261]? = some (6, 10) := by decide +kernel
theorem kK_262 : ksK[262]? = some (0, 12) := by decide +kernel
theorem kK_263 : ksK[263]? = some (0, 12) := by decide +kernel
theorem kK_264 : ksK[264]? = some (0, 12) := by decide +kernel
theorem kK_265 : ksK[265]? = some (0, 12) := by decide +kernel
theorem kK_266 : ksK[266]? = some (0, 12) := by decide +kernel
theorem kK_267 : ksK[267]? = some (0, 48) := by decide +kernel
theorem kK_268 : ksK[268]? = some (0, 48) := by decide +kernel
theorem kK_269 : ksK[269]? = some (0, 48) := by decide +kernel
theorem kK_270 : ksK[270]? = some (1, 48) := by decide +kernel
theorem kK_271 : ksK[271]? = some (1, 3) := by decide +kernel
theorem kK_272 : ksK[272]? = some (1, 6) := by decide +kernel
theorem kK_273 : ksK[273]? = some (0, 6) := by decide +kernel
theorem kK_274 : ksK[274]? = some (6, 4) := by decide +kernel
theorem kK_275 : ksK[275]? = some (1, 360) := by decide +kernel
theorem kK_276 : ksK[276]? = some (1, 360) := by decide +kernel
theorem kK_277 : ksK[277]? = some (1, 9) := by decide +kernel
theorem kK_278 : ksK[278]? = some (1, 48) := by decide +kernel
theorem kK_279 : ksK[279]? = some (0, 3) := by decide +kernel
theorem kK_280 : ksK[280]? = some (6, 3) := by decide +kernel
theorem kK_281 : ksK[281]? = some (0, 4000) := by decide +kernel
theorem kK_282 : ksK[282]? = some (0, 8000) := by decide +kernel
theorem kK_283 : ksK[283]? = some (0, 400) := by decide +kernel
theorem kK_284 : ksK[284]? = some (0, 4000) := by decide +kernel
theorem kK_285 : ksK[285]? = some (0, 400) := by decide +kernel
theorem kK_286 : ksK[286]? = some (6, 15) := by decide +kernel
theorem kK_287 : ksK[287]? = some (3, 4000) := by decide +kernel
theorem kK_288 : ksK[288]? = some (3, 20) := by decide +kernel
theorem kK_289 : ksK[289]? = some (1, 29) := by decide +kernel
theorem kK_290 : ksK[290]? = some (1, 16) := by decide +kernel
theorem kK_291 : ksK[291]? = some (1, 96) := by decide +kernel
theorem kK_292 : ksK[292]? = some (1, 96) := by decide +kernel
theorem kK_293 : ksK[293]? = some (0, 16) := by decide +kernel
theorem kK_294 : ksK[294]? = some (0, 16) := by decide +kernel
theorem kK_295 : ksK[295]? = some (0, 16) := by decide +kernel
theorem kK_296 : ksK[296]? = some (0, 16) := by decide +kernel
theorem kK_297 : ksK[297]? = some (0, 16) := by decide +kernel
theorem kK_298 : ksK[298]? = some (0, 96) := by decide +kernel
theorem kK_299 : ksK[299]? = some (0, 96) := by decide +kernel
theorem kK_300 : ksK[300]? = some (0, 96) := by decide +kernel
theorem kK_301 : ksK[301]? = some (0, 96) := by decide +kernel
theorem kK_302 : ksK[302]? = some (2, 16) := by decide +kernel
theorem kK_303 : ksK[303]? = some (2, 96) := by decide +kernel
theorem kK_304 : ksK[304]? = some (2, 16) := by decide +kernel
theorem kK_305 : ksK[305]? = some (0, 400) := by decide +kernel
theorem kK_306 : ksK[306]? = some (0, 400) := by decide +kernel
theorem kK_307 : ksK[307]? = some (0, 400) := by decide +kernel
theorem kK_308 : ksK[308]? = some (2, 400) := by decide +kernel
theorem kK_309 : ksK[309]? = some (1, 38500) := by decide +kernel
theorem kK_310 : ksK[310]? = some (0, 12) := by decide +kernel
theorem kK_311 : ksK[311]? = some (0, 100) := by decide +kernel
theorem kK_312 : ksK[312]? = some (0, 100) := by decide +kernel
theorem kK_313 : ksK[313]? = some (0, 100) := by decide +kernel
theorem kK_314 : ksK[314]? = some (1, 100) := by decide +kernel
theorem kK_315 : ksK[315]? = some (0, 6) := by decide +kernel
theorem kK_316 : ksK[316]? = some (0, 6) := by decide +kernel
theorem kK_317 : ksK[317]? = some (0, 6) := by decide +kernel
theorem kK_318 : ksK[318]? = some (0, 36) := by decide +kernel
theorem kK_319 : ksK[319]? = some (0, 36) := by decide +kernel
theorem kK_320 : ksK[320]? = some (1, 36) := by decide +kernel
theorem kK_321 : ksK[321]? = some (1, 36) := by decide +kernel
theorem kK_322 : ksK[322]? = some (0, 400) := by decide +kernel
theorem kK_323 : ksK[323]? = some (0, 400) := by decide +kernel
theorem kK_324 : ksK[324]? = some (0, 5) := by decide +kernel
theorem kK_325 : ksK[325]? = some (0, 2000) := by decide +kernel
theorem kK_326 : ksK[326]? = some (0, 2000) := by decide +kernel
theorem kK_327 : ksK[327]? = some (0, 2000) := by decide +kernel
theorem kK_328 : ksK[328]? = some (0, 2000) := by decide +kernel
theorem kK_329 : ksK[329]? = some (0, 2000) := by decide +kernel
theorem kK_330 : ksK[330]? = some (0, 2000) := by decide +kernel
theorem kK_331 : ksK[331]? = some (0, 2000) := by decide +kernel
theorem kK_332 : ksK[332]? = some (0, 2000) := by decide +kernel
theorem kK_333 : ksK[333]? = some (0, 2000) := by decide +kernel
theorem kK_334 : ksK[334]? = some (0, 2000) := by decide +kernel
theorem kK_335 : ksK[335]? = some (0, 2000) := by decide +kernel
theorem kK_336 : ksK[336]? = some (0, 2000) := by decide +kernel
theorem kK_337 : ksK[337]? = some (0, 2000) := by decide +kernel
theorem kK_338 : ksK[338]? = some (0, 5) := by decide +kernel
theorem kK_339 : ksK[339]? = some (0, 5) := by decide +kernel
theorem kK_340 : ksK[340]? = some (0, 5) := by decide +kernel
theorem kK_341 : ksK[341]? = some (0, 5) := by decide +kernel
theorem kK_342 : ksK[342]? = some (0, 640) := by decide +kernel
theorem kK_343 : ksK[343]? = some (0, 640) := by decide +kernel
theorem kK_344 : ksK[344]? = some (1, 20000) := by decide +kernel
theorem kK_345 : ksK[345]? = some (2, 2000) := by decide +kernel
theorem kK_346 : ksK[346]? = some (2, 400) := by decide +kernel
theorem kK_347 : ksK[347]? = some (2, 160000) := by decide +kernel
theorem kK_348 : ksK[348]? = some (0, 400) := by decide +kernel
theorem kK_349 : ksK[349]? = some (0, 400) := by decide +kernel
theorem kK_350 : ksK[350]? = some (0, 400) := by decide +kernel
theorem kK_351 : ksK[351]? = some (0, 400) := by decide +kernel
theorem kK_352 : ksK[352]? = some (0, 480) := by decide +kernel
theorem kK_353 : ksK[353]? = some (0, 480) := by decide +kernel
theorem kK_354 : ksK[354]? = some (0, 480) := by decide +kernel
theorem kK_355 : ksK[355]? = some (0, 480) := by decide +kernel
theorem kK_356 : ksK[356]? = some (1, 480) := by decide +kernel
theorem kK_357 : ksK[357]? = some (1, 12) := by decide +kernel
theorem kK_358 : ksK[358]? = some (0, 12) := by decide +kernel
theorem kK_359 : ksK[359]? = some (0, 52800) := by decide +kernel
theorem kK_360 : ksK[360]? = some (0, 12) := by decide +kernel
theorem kK_361 : ksK[361]? = some (0, 4400) := by decide +kernel
theorem kK_362 : ksK[362]? = some (0, 4400) := by decide +kernel
theorem kK_363 : ksK[363]? = some (1, 4400) := by decide +kernel
theorem kK_364 : ksK[364]? = some (0, 3) := by decide +kernel
theorem kK_365 : ksK[365]? = some (0, 3) := by decide +kernel
theorem kK_366 : ksK[366]? = some (1, 6) := by decide +kernel
theorem kK_367 : ksK[367]? = some (1, 9) := by decide +kernel
theorem kK_368 : ksK[368]? = some (1, 48) := by decide +kernel
theorem kK_369 : ksK[369]? = some (0, 6) := by decide +kernel
theorem kK_370 : ksK[370]? = some (0, 12) := by decide +kernel
theorem kK_371 : ksK[371]? = some (0, 12) := by decide +kernel
theorem kK_372 : ksK[372]? = some (0, 12) := by decide +kernel
theorem kK_373 : ksK[373]? = some (0, 12) := by decide +kernel
theorem kK_374 : ksK[374]? = some (0, 48) := by decide +kernel
theorem kK_375 : ksK[375]? = some (0, 48) := by decide +kernel
theorem kK_376 : ksK[376]? = some (0, 48) := by decide +kernel
theorem kK_377 : ksK[377]? = some (0, 48) := by decide +kernel
theorem kK_378 : ksK[378]? = some (0, 12) := by decide +kernel
theorem kK_379 : ksK[379]? = some (0, 9) := by decide +kernel
theorem kK_380 : ksK[380]? = some (2, 240) := by decide +kernel
theorem kK_381 : ksK[381]? = some (2, 9600) := by decide +kernel
theorem kK_382 : ksK[382]? = some (2, 9) := by decide +kernel
theorem kK_383 : ksK[383]? = some (2, 9) := by decide +kernel
theorem kK_384 : ksK[384]? = some (3, 9000) := by decide +kernel
theorem kK_385 : ksK[385]? = some (3, 8000) := by decide +kernel
theorem kK_386 : ksK[386]? = some (0, 400) := by decide +kernel
theorem kK_387 : ksK[387]? = some (0, 4000) := by decide +kernel
theorem kK_388 : ksK[388]? = some (0, 1000) := by decide +kernel
theorem kK_389 : ksK[389]? = some (1, 1) := by decide +kernel
theorem fB_3_0 : (ftB 3)[0]? = some (3, 0) := by decide +kernel
theorem fB_3_1 : (ftB 3)[1]? = some (3, 0) := by decide +kernel
theorem fB_3_3 : (ftB 3)[3]? = some (3, 0) := by decide +kernel
theorem fB_3_6 : (ftB 3)[6]? = some (3, 0) := by decide +kernel
theorem fB_3_11 : (ftB 3)[11]? = some (3, 0) := by decide +kernel
theorem fB_3_12 : (ftB 3)[12]? = some (3, 0) := by decide +kernel
theorem fB_4_0 : (ftB 4)[0]? = some (3, 0) := by decide +kernel
theorem fB_4_3 : (ftB 4)[3]? = some (3, 0) := by decide +kernel
theorem fB_4_4 : (ftB 4)[4]? = some (3, 0) := by decide +kernel
theorem fB_4_5 : (ftB 4)[5]? = some (3, 0) := by decide +kernel
theorem fB_4_6 : (ftB 4)[6]? = some (3, 0) := by decide +kernel
theorem fB_4_7 : (ftB 4)[7]? = some (3, 0) := by decide +kernel
theorem fB_5_0 : (ftB 5)[0]? = some (3, 0) := by decide +kernel
theorem fB_5_4 : (ftB 5)[4]? = some (3, 0) := by decide +kernel
theorem fB_5_5 : (ftB 5)[5]? = some (3, 0) := by decide +kernel
theorem fB_5_6 : (ftB 5)[6]? = some (3, 0) := by decide +kernel
theorem fB_5_7 : (ftB 5)[7]? = some (3, 0) := by decide +kernel
theorem fB_5_8 : (ftB 5)[8]? = some (3, 0) := by decide +kernel
theorem fB_5_9 : (ftB 5)[9]? = some (3, 0) := by decide +kernel
theorem fB_5_10 : (ftB 5)[10]? = some (3, 0) := by decide +kernel
theorem fB_5_12 : (ftB 5)[12]? = some (3, 0) := by decide +kernel
theorem fB_5_13 : (ftB 5)[13]? = some (3, 0) := by decide +kernel
theorem fB_6_0 : (ftB 6)[0]? = some (3, 0) := by decide +kernel
theorem fB_6_2 : (ftB 6)[2]? = some (3, 0) := by decide +kernel
theorem fB_6_3 : (ftB 6)[3]? = some (3, 0) := by decide +kernel
theorem fB_6_4 : (ftB 6)[4]? = some (3, 0) := by decide +kernel
theorem fB_6_8 : (ftB 6)[8]? = some (3, 0) := by decide +kernel
theorem fB_6_9 : (ftB 6)[9]? = some (3, 0) := by decide +kernel
theorem fB_6_10 : (ftB 6)[10]? = some (3, 0) := by decide +kernel
theorem fB_6_11 : (ftB 6)[11]? = some (3, 0) := by decide +kernel
theorem fB_6_12 : (ftB 6)[12]? = some (3, 0) := by decide +kernel
theorem fB_7_0 : (ftB 7)[0]? = some (3, 0) := by decide +kernel
theorem fB_7_4 : (ftB 7)[4]? = some (3, 0) := by decide +kernel
theorem fB_7_5 : (ftB 7)[5]? = some (3, 0) := by decide +kernel
theorem fB_7_7 : (ftB 7)[7]? = some (3, 0) := by decide +kernel
theorem fB_7_8 : (ftB 7)[8]? = some (3, 0) := by decide +kernel
theorem fB_7_9 : (ftB 7)[9]? = some (3, 0) := by decide +kernel
theorem fB_7_10 : (ftB 7)[10]? = some (3, 0) := by decide +kernel
theorem fB_7_11 : (ftB 7)[11]? = some (3, 0) := by decide +kernel
theorem fB_7_12 : (ftB 7)[12]? = some (3, 0) := by decide +kernel
theorem fB_7_13 : (ftB 7)[13]? = some (3, 0) := by decide +kernel
theorem fB_7_14 : (ftB 7)[14]? = some (3, 0) := by decide +kernel
theorem fB_7_15 : (ftB 7)[15]? = some (3, 0) := by decide +kernel
theorem fB_7_16 : (ftB 7)[16]? = some (3, 0) := by decide +kernel
theorem fB_7_17 : (ftB 7)[17]? = some (3, 0) := by decide +kernel
theorem fB_7_18 : (ftB 7)[18]? = some (3, 0) := by decide +kernel
theorem fB_7_19 : (ftB 7)[19]? = some (3, 0) := by decide +kernel
theorem fB_8_1 : (ftB 8)[1]? = some (3, 0) := by decide +kernel
theorem fB_8_2 : (ftB 8)[2]? = some (3, 0) := by decide +kernel
theorem fB_8_3 : (ftB 8)[3]? = some (3, 0) := by decide +kernel
theorem fB_8_4 : (ftB 8)[4]? = some (3, 0) := by decide +kernel
theorem fB_8_5 : (ftB 8)[5]? = some (3, 0) := by decide +kernel
theorem fB_8_6 : (ftB 8)[6]? = some (3, 0) := by decide +kernel
theorem fB_8_7 : (ftB 8)[7]? = some (3, 0) := by decide +kernel
theorem fB_8_8 : (ftB 8)[8]? = some (3, 0) := by decide +kernel
theorem fB_8_9 : (ftB 8)[9]? = some (3, 0) := by decide +kernel
theorem fB_8_10 : (ftB 8)[10]? = some (3, 0) := by decide +kernel
theorem fB_8_12 : (ftB 8)[12]? = some (3, 0) := by decide +kernel
theorem fB_8_13 : (ftB 8)[13]? = some (3, 0) := by decide +kernel
theorem fB_8_14 : (ftB 8)[14]? = some (3, 0) := by decide +kernel
theorem fB_8_15 : (ftB 8)[15]? = some (3, 0) := by decide +kernel
theorem fB_8_17 : (ftB 8)[17]? = some (3, 0) := by decide +kernel
theorem fB_8_18 : (ftB 8)[18]? = some (3, 0) := by decide +kernel
theorem fB_8_19 : (ftB 8)[19]? = some (3, 0) := by decide +kernel
theorem fB_8_20 : (ftB 8)[20]? = some (3, 0) := by decide +kernel
theorem fB_9_0 : (ftB 9)[0]? = some (3, 0) := by decide +kernel
theorem fB_9_1 : (ftB 9)[1]? = some (3, 0) := by decide +kernel
theorem fB_9_2 : (ftB 9)[2]? = some (3, 0) := by decide +kernel
theorem fB_9_3 : (ftB 9)[3]? = some (3, 0) := by decide +kernel
theorem fB_9_4 : (ftB 9)[4]? = some (3, 0) := by decide +kernel
theorem fB_9_14 : (ftB 9)[14]? = some (3, 0) := by decide +kernel
theorem fB_9_15 : (ftB 9)[15]? = some (3, 0) := by decide +kernel
theorem fB_9_17 : (ftB 9)[17]? = some (3, 0) := by decide +kernel
theorem fB_10_0 : (ftB 10)[0]? = some (3, 0) := by decide +kernel
theorem fB_10_1 : (ftB 10)[1]? = some (1, 0) := by decide +kernel
theorem fB_10_2 : (ftB 10)[2]? = some (1, 0) := by decide +kernel
theorem fB_10_4 : (ftB 10)[4]? = some (3, 0) := by decide +kernel
theorem fB_10_5 : (ftB 10)[5]? = some (3, 0) := by decide +kernel
theorem fB_10_6 : (ftB 10)[6]? = some (3, 0) := by decide +kernel
theorem fB_10_7 : (ftB 10)[7]? = some (3, 0) := by decide +kernel
theorem fB_10_8 : (ftB 10)[8]? = some (3, 0) := by decide +kernel
theorem fB_10_9 : (ftB 10)[9]? = some (3, 0) := by decide +kernel
theorem fB_10_10 : (ftB 10)[10]? = some (3, 0) := by decide +kernel
theorem fB_10_11 : (ftB 10)[11]? = some (3, 0) := by decide +kernel
theorem fB_10_12 : (ftB 10)[12]? = some (3, 0) := by decide +kernel
theorem fB_10_13 : (ftB 10)[13]? = some (3, 0) := by decide +kernel
theorem fB_10_17 : (ftB 10)[17]? = some (3, 0) := by decide +kernel
theorem fB_10_18 : (ftB 10)[18]? = some (3, 0) := by decide +kernel
theorem fB_11_0 : (ftB 11)[0]? = some (3, 0) := by decide +kernel
theorem fB_11_2 : (ftB 11)[2]? = some (3, 0) := by decide +kernel
theorem fB_11_3 : (ftB 11)[3]? = some (3, 0) := by decide +kernel
theorem fB_11_4 : (ftB 11)[4]? = some (3, 0) := by decide +kernel
theorem fB_11_5 : (ftB 11)[5]? = some (3, 0) := by decide +kernel
theorem fB_11_6 : (ftB 11)[6]? = some (3, 0) := by decide +kernel
theorem fB_11_7 : (ftB 11)[7]? = some (3, 0) := by decide +kernel
theorem fB_11_8 : (ftB 11)[8]? = some (3, 0) := by decide +kernel
theorem fB_11_10 : (ftB 11)[10]? = some (3, 0) := by decide +kernel
theorem fB_11_12 : (ftB 11)[12]? = some (3, 0) := by decide +kernel
theorem fB_11_13 : (ftB 11)[13]? = some (3, 0) := by decide +kernel
theorem fB_11_14 : (ftB 11)[14]? = some (3, 0) := by decide +kernel
theorem fB_11_15 : (ftB 11)[15]? = some (3, 0) := by decide +kernel
theorem fB_11_16 : (ftB 11)[16]? = some (3, 0) := by decide +kernel
theorem fB_11_17 : (ftB 11)[17]? = some (3, 0) := by decide +kernel
theorem fB_12_0 : (ftB 12)[0]? = some (3, 0) := by decide +kernel
theorem fB_12_2 : (ftB 12)[2]? = some (3, 0) := by decide +kernel
theorem fB_12_3 : (ftB 12)[3]? = some (3, 0) := by decide +kernel
theorem fB_12_5 : (ftB 12)[5]? = some (3, 0) := by decide +kernel
theorem fB_12_6 : (ftB 12)[6]? = some (3, 0) := by decide +kernel
theorem fB_12_7 : (ftB 12)[7]? = some (3, 0) := by decide +kernel
theorem fB_13_1 : (ftB 13)[1]? = some (3, 0) := by decide +kernel
theorem fB_13_2 : (ftB 13)[2]? = some (3, 0) := by decide +kernel
theorem fB_13_3 : (ftB 13)[3]? = some (3, 0) := by decide +kernel
theorem fB_13_4 : (ftB 13)[4]? = some (3, 0) := by decide +kernel
theorem fB_13_5 : (ftB 13)[5]? = some (3, 0) := by decide +kernel
theorem fB_13_6 : (ftB 13)[6]? = some (3, 0) := by decide +kernel
theorem fB_13_7 : (ftB 13)[7]? = some (3, 0) := by decide +kernel
theorem fB_13_8 : (ftB 13)[8]? = some (3, 0) := by decide +kernel
theorem fB_13_9 : (ftB 13)[9]? = some (3, 0) := by decide +kernel
theorem fB_13_10 : (ftB 13)[10]? = some (3, 0) := by decide +kernel
theorem fB_13_11 : (ftB 13)[11]? = some (3, 0) := by decide +kernel
theorem fB_13_12 : (ftB 13)[12]? = some (3, 0) := by decide +kernel
theorem fB_13_13 : (ftB 13)[13]? = some (3, 0) := by decide +kernel
theorem fB_13_14 : (ftB 13)[14]? = some (3, 0) := by decide +kernel
theorem fB_13_15 : (ftB 13)[15]? = some (3, 0) := by decide +kernel
theorem fB_13_16 : (ftB 13)[16]? = some (3, 0) := by decide +kernel
theorem fB_13_17 : (ftB 13)[17]? = some (3, 0) := by decide +kernel
theorem fB_14_0 : (ftB 14)[0]? = some (3, 0) := by decide +kernel
theorem fB_14_1 : (ftB 14)[1]? = some (3, 0) := by decide +kernel
theorem fB_14_2 : (ftB 14)[2]? = some (3, 0) := by decide +kernel
theorem fB_14_3 : (ftB 14)[3]? = some (3, 0) := by decide +kernel
theorem fB_14_4 : (ftB 14)[4]? = some (3, 0) := by decide +kernel
theorem fB_14_5 : (ftB 14)[5]? = some (3, 0) := by decide +kernel
theorem fB_14_6 : (ftB 14)[6]? = some (3, 0) := by decide +kernel
theorem fB_14_7 : (ftB 14)[7]? = some (3, 0) := by decide +kernel
theorem fB_14_8 : (ftB 14)[8]? = some (3, 0) := by decide +kernel
theorem fB_14_9 : (ftB 14)[9]? = some (3, 0) := by decide +kernel
theorem fB_14_11 : (ftB 14)[11]? = some (3, 0) := by decide +kernel
theorem fB_14_12 : (ftB 14)[12]? = some (3, 0) := by decide +kernel
theorem fB_14_13 : (ftB 14)[13]? = some (3, 0) := by decide +kernel
theorem fB_14_14 : (ftB 14)[14]? = some (3, 0) := by decide +kernel
theorem fB_14_17 : (ftB 14)[17]? = some (0, 0) := by decide +kernel
theorem fB_15_1 : (ftB 15)[1]? = some (3, 0) := by decide +kernel
theorem fB_15_2 : (ftB 15)[2]? = some (3, 0) := by decide +kernel
theorem fB_15_4 : (ftB 15)[4]? = some (3, 0) := by decide +kernel
theorem fB_15_5 : (ftB 15)[5]? = some (3, 0) := by decide +kernel
theorem fB_15_6 : (ftB 15)[6]? = some (3, 0) := by decide +kernel
theorem fB_15_7 : (ftB 15)[7]? = some (3, 0) := by decide +kernel
theorem fB_15_8 : (ftB 15)[8]? = some (3, 0) := by decide +kernel
theorem fB_15_9 : (ftB 15)[9]? = some (3, 0) := by decide +kernel
theorem fB_15_10 : (ftB 15)[10]? = some (3, 0) := by decide +kernel
theorem fB_15_11 : (ftB 15)[11]? = some (3, 0) := by decide +kernel
theorem fB_15_12 : (ftB 15)[12]? = some (3, 0) := by decide +kernel
theorem fB_15_13 : (ftB 15)[13]? = some (3, 0) := by decide +kernel
theorem fB_15_14 : (ftB 15)[14]? = some (3, 0) := by decide +kernel
theorem fB_15_15 : (ftB 15)[15]? = some (3, 0) := by decide +kernel
theorem fB_15_16 : (ftB 15)[16]? = some (3, 0) := by decide +kernel
theorem fB_15_17 : (ftB 15)[17]? = some (3, 0) := by decide +kernel
theorem fB_15_18 : (ftB 15)[18]? = some (3, 0) := by decide +kernel
theorem fB_15_19 : (ftB 15)[19]? = some (3, 0) := by decide +kernel
theorem fB_15_21 : (ftB 15)[21]? = some (3, 0) := by decide +kernel
theorem fB_15_22 : (ftB 15)[22]? = some (3, 0) := by decide +kernel
theorem fB_15_23 : (ftB 15)[23]? = some (3, 0) := by decide +kernel
theorem fB_15_24 : (ftB 15)[24]? = some (3, 0) := by decide +kernel
theorem fB_15_25 : (ftB 15)[25]? = some (3, 0) := by decide +kernel
theorem fB_15_30 : (ftB 15)[30]? = some (3, 0) := by decide +kernel
theorem fB_15_32 : (ftB 15)[32]? = some (3, 0) := by decide +kernel
theorem fB_15_33 : (ftB 15)[33]? = some (3, 0) := by decide +kernel
theorem fB_15_34 : (ftB 15)[34]? = some (3, 0) := by decide +kernel
theorem fB_15_35 : (ftB 15)[35]? = some (3, 0) := by decide +kernel
theorem fB_15_37 : (ftB 15)[37]? = some (3, 0) := by decide +kernel
theorem fB_15_38 : (ftB 15)[38]? = some (3, 0) := by decide +kernel
theorem fB_15_39 : (ftB 15)[39]? = some (3, 0) := by decide +kernel
theorem fB_15_40 : (ftB 15)[40]? = some (3, 0) := by decide +kernel
theorem fB_15_41 : (ftB 15)[41]? = some (3, 0) := by decide +kernel
theorem fB_15_42 : (ftB 15)[42]? = some (3, 0) := by decide +kernel
theorem fB_15_43 : (ftB 15)[43]? = some (3, 0) := by decide +kernel
theorem fB_15_45 : (ftB 15)[45]? = some (3, 0) := by decide +kernel
theorem fB_15_46 : (ftB 15)[46]? = some (3, 0) := by decide +kernel
theorem fB_15_48 : (ftB 15)[48]? = some (3, 0) := by decide +kernel
theorem fB_15_49 : (ftB 15)[49]? = some (3, 0) := by decide +kernel
theorem fB_15_50 : (ftB 15)[50]? = some (3, 0) := by decide +kernel
theorem fB_15_51 : (ftB 15)[51]? = some (3, 0) := by decide +kernel
theorem fB_15_52 : (ftB 15)[52]? = some (3, 0) := by decide +kernel
theorem fB_15_53 : (ftB 15)[53]? = some (3, 0) := by decide +kernel
theorem fB_15_54 : (ftB 15)[54]? = some (3, 0) := by decide +kernel
theorem fB_15_55 : (ftB 15)[55]? = some (3, 0) := by decide +kernel
theorem fB_15_56 : (ftB 15)[56]? = some (3, 0) := by decide +kernel
theorem fB_15_57 : (ftB 15)[57]? = some (3, 0) := by decide +kernel
theorem fB_15_58 : (ftB 15)[58]? = some (3, 0) := by decide +kernel
theorem fB_15_59 : (ftB 15)[59]? = some (3, 0) := by decide +kernel
theorem fB_15_60 : (ftB 15)[60]? = some (3, 0) := by decide +kernel
theorem fB_15_61 : (ftB 15)[61]? = some (3, 0) := by decide +kernel
theorem fB_15_62 : (ftB 15)[62]? = some (3, 0) := by decide +kernel
theorem fB_15_63 : (ftB 15)[63]? = some (3, 0) := by decide +kernel
theorem fB_15_64 : (ftB 15)[64]? = some (3, 0) := by decide +kernel
theorem fB_15_65 : (ftB 15)[65]? = some (3, 0) := by decide +kernel
theorem fB_15_66 : (ftB 15)[66]? = some (3, 0) := by decide +kernel
theorem fB_15_67 : (ftB 15)[67]? = some (3, 0) := by decide +kernel
theorem fB_15_68 : (ftB 15)[68]? = some (3, 0) := by decide +kernel
theorem fB_15_69 : (ftB 15)[69]? = some (3, 0) := by decide +kernel
theorem fB_15_70 : (ftB 15)[70]? = some (3, 0) := by decide +kernel
theorem fB_15_71 : (ftB 15)[71]? = some (3, 0) := by decide +kernel
theorem fB_15_72 : (ftB 15)[72]? = some (3, 0) := by decide +kernel
theorem fB_15_74 : (ftB 15)[74]? = some (3, 0) := by decide +kernel
theorem fB_15_76 : (ftB 15)[76]? = some (3, 0) := by decide +kernel
theorem fB_15_77 : (ftB 15)[77]? = some (3, 0) := by decide +kernel
theorem fB_15_82 : (ftB 15)[82]? = some (0, 0) := by decide +kernel
theorem fB_15_86 : (ftB 15)[86]? = some (3, 0) := by decide +kernel
theorem fB_15_87 : (ftB 15)[87]? = some (3, 0) := by decide +kernel
theorem fB_15_88 : (ftB 15)[88]? = some (3, 0) := by decide +kernel
theorem fB_15_89 : (ftB 15)[89]? = some (3, 0) := by decide +kernel
theorem fB_15_90 : (ftB 15)[90]? = some (3, 0) := by decide +kernel
theorem fB_15_96 : (ftB 15)[96]? = some (3, 0) := by decide +kernel
theorem fB_15_104 : (ftB 15)[104]? = some (3, 0) := by decide +kernel
theorem fB_15_105 : (ftB 15)[105]? = some (3, 0) := by decide +kernel
theorem fB_15_106 : (ftB 15)[106]? = some (3, 0) := by decide +kernel
theorem fB_15_107 : (ftB 15)[107]? = some (3, 0) := by decide +kernel
theorem fB_15_108 : (ftB 15)[108]? = some (3, 0) := by decide +kernel
theorem fB_15_109 : (ftB 15)[109]? = some (3, 0) := by decide +kernel
theorem fB_15_111 : (ftB 15)[111]? = some (3, 0) := by decide +kernel
theorem fB_15_112 : (ftB 15)[112]? = some (3, 0) := by decide +kernel
theorem fB_15_115 : (ftB 15)[115]? = some (3, 0) := by decide +kernel
theorem fB_15_116 : (ftB 15)[116]? = some (3, 0) := by decide +kernel
theorem fB_15_117 : (ftB 15)[117]? = some (3, 0) := by decide +kernel
theorem fB_15_118 : (ftB 15)[118]? = some (3, 0) := by decide +kernel
theorem fB_15_119 : (ftB 15)[119]? = some (3, 0) := by decide +kernel
theorem fB_15_120 : (ftB 15)[120]? = some (3, 0) := by decide +kernel
theorem fB_15_121 : (ftB 15)[121]? = some (3, 0) := by decide +kernel
theorem fB_15_122 : (ftB 15)[122]? = some (3, 0) := by decide +kernel
theorem fB_15_123 : (ftB 15)[123]? = some (3, 0) := by decide +kernel
theorem fB_15_124 : (ftB 15)[124]? = some (3, 0) := by decide +kernel
theorem fB_15_125 : (ftB 15)[125]? = some (3, 0) := by decide +kernel
theorem fB_15_126 : (ftB 15)[126]? = some (3, 0) := by decide +kernel
theorem fB_15_127 : (ftB 15)[127]? = some (3, 0) := by decide +kernel
theorem fB_15_128 : (ftB 15)[128]? = some (3, 0) := by decide +kernel
theorem fB_15_129 : (ftB 15)[129]? = some (3, 0) := by decide +kernel
theorem fB_15_130 : (ftB 15)[130]? = some (3, 0) := by decide +kernel
theorem fB_15_131 : (ftB 15)[131]? = some (3, 0) := by decide +kernel
theorem fB_15_132 : (ftB 15)[132]? = some (3, 0) := by decide +kernel
theorem fB_15_139 : (ftB 15)[139]? = some (3, 0) := by decide +kernel
theorem fB_15_140 : (ftB 15)[140]? = some (3, 0) := by decide +kernel
theorem fB_15_144 : (ftB 15)[144]? = some (3, 0) := by decide +kernel
theorem fB_15_145 : (ftB 15)[145]? = some (3, 0) := by decide +kernel
theorem fB_15_147 : (ftB 15)[147]? = some (3, 0) := by decide +kernel
theorem jFr_kw {n : Nat} {M : MM} (h : jFr ftB ksK n M) (hn : 7 < n) : jFr ftB ksK n (kwU M) := fun c k a b => by
  have : kwU M c = M c := funext fun j => by unfold kwU; rw [if_neg (by omega)]
  rw [this]; exact h c k a b
theorem jFr_kr {n : Nat} {M : MM} (h : jFr ftB ksK n M) (hn : 289 < n) : jFr ftB ksK n (krU M) := fun c k a b => by
  have : krU M c = M c := funext fun j => by unfold krU; rw [if_neg (by omega)]
  rw [this]; exact h c k a b
