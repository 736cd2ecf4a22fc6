/-! the table of methods -/
abbrev jT0 : List jM := [jm0, jm1, jm2, jm3, jm4, jm5, jm6, jm7, jm8, jm9, jm10, jm11, jm12, jm13, jm14, jm15, jm16, jm17, jm18, jm19, jm20, jm21, jm22, jm23, jm24, jm25, jm26, jm27, jm28, jm29]
abbrev jT1 : List jM := [jm30, jm31, jm32, jm33, jm34, jm35, jm36, jm37, jm38, jm39, jm40, jm41, jm42, jm43, jm44, jm45, jm46, jm47, jm48, jm49, jm50, jm51, jm52, jm53, jm54, jm55, jm56, jm57, jm58, jm59]
abbrev jT2 : List jM := [jm60, jm61, jm62, jm63, jm64, jm65, jm66, jm67, jm68, jm69, jm70, jm71, jm72, jm73, jm74, jm75, jm76, jm77, jm78, jm79, jm80, jm81, jm82, jm83, jm84, jm85, jm86, jm87, jm88, jm89]
abbrev jT3 : List jM := [jm90, jm91, jm92, jm93, jm94, jm95, jm96, jm97, jm98, jm99, jm100, jm101, jm102, jm103, jm104, jm105, jm106, jm107, jm108, jm109, jm110, jm111, jm112, jm113, jm114, jm115, jm116, jm117, jm118, jm119]
abbrev jT4 : List jM := [jm120, jm121, jm122, jm123, jm124, jm125, jm126, jm127, jm128, jm129, jm130, jm131, jm132, jm133, jm134, jm135, jm136, jm137, jm138, jm139, jm140, jm141, jm142, jm143, jm144, jm145, jm146, jm147, jm148, jm149]
abbrev jT5 : List jM := [jm150, jm151, jm152, jm153, jm154, jm155, jm156, jm157, jm158, jm159, jm160, jm161, jm162, jm163, jm164, jm165, jm166, jm167, jm168, jm169, jm170, jm171, jm172, jm173, jm174, jm175, jm176, jm177, jm178, jm179]
abbrev jT6 : List jM := [jm180, jm181, jm182, jm183, jm184, jm185, jm186, jm187, jm188, jm189, jm190, jm191, jm192, jm193, jm194, jm195, jm196, jm197, jm198, jm199, jm200, jm201, jm202, jm203, jm204, jm205, jm206, jm207, jm208, jm209]
abbrev jT7 : List jM := [jm210, jm211, jm212, jm213, jm214, jm215, jm216, jm217, jm218, jm219, jm220, jm221, jm222, jm223, jm224, jm225, jm226, jm227, jm228, jm229, jm230, jm231, jm232, jm233, jm234, jm235, jm236, jm237, jm238, jm239]
abbrev jT8 : List jM := [jm240, jm241, jm242, jm243, jm244, jm245, jm246, jm247, jm248, jm249, jm250, jm251, jm252, jm253, jm254, jm255, jm256, jm257, jm258, jm259, jm260, jm261, jm262, jm263, jm264, jm265, jm266, jm267, jm268]
abbrev jT : List jM := jT0 ++ (jT1 ++ (jT2 ++ (jT3 ++ (jT4 ++ (jT5 ++ (jT6 ++ (jT7 ++ (jT8))))))))
theorem jT_0 : jT[0]? = some jm0 := rfl
theorem jT_1 : jT[1]? = some jm1 := rfl
theorem jT_2 : jT[2]? = some jm2 := rfl
theorem jT_3 : jT[3]? = some jm3 := rfl
theorem jT_4 : jT[4]? = some jm4 := rfl
theorem jT_5 : jT[5]? = some jm5 := rfl
theorem jT_6 : jT[6]? = some jm6 := rfl
theorem jT_7 : jT[7]? = some jm7 := rfl
theorem jT_8 : jT[8]? = some jm8 := rfl
theorem jT_9 : jT[9]? = some jm9 := rfl
theorem jT_10 : jT[10]? = some jm10 := rfl
theorem jT_11 : jT[11]? = some jm11 := rfl
theorem jT_12 : jT[12]? = some jm12 := rfl
theorem jT_13 : jT[13]? = some jm13 := rfl
theorem jT_14 : jT[14]? = some jm14 := rfl
theorem jT_15 : jT[15]? = some jm15 := rfl
theorem jT_16 : jT[16]? = some jm16 := rfl
theorem jT_17 : jT[17]? = some jm17 := rfl
theorem jT_18 : jT[18]? = some jm18 := rfl
theorem jT_19 : jT[19]? = some jm19 := rfl
theorem jT_20 : jT[20]? = some jm20 := rfl
theorem jT_21 : jT[21]? = some jm21 := rfl
theorem jT_22 : jT[22]? = some jm22 := rfl
theorem jT_23 : jT[23]? = some jm23 := rfl
theorem jT_24 : jT[24]? = some jm24 := rfl
theorem jT_25 : jT[25]? = some jm25 := rfl
theorem jT_26 : jT[26]? = some jm26 := rfl
theorem jT_27 : jT[27]? = some jm27 := rfl
theorem jT_28 : jT[28]? = some jm28 := rfl
theorem jT_29 : jT[29]? = some jm29 := rfl
theorem jT_30 : jT[30]? = some jm30 := rfl
theorem jT_31 : jT[31]? = some jm31 := rfl
theorem jT_32 : jT[32]? = some jm32 := rfl
theorem jT_33 : jT[33]? = some jm33 := rfl
theorem jT_34 : jT[34]? = some jm34 := rfl
theorem jT_35 : jT[35]? = some jm35 := rfl
theorem jT_36 : jT[36]? = some jm36 := rfl
theorem jT_37 : jT[37]? = some jm37 := rfl
theorem jT_38 : jT[38]? = some jm38 := rfl
theorem jT_39 : jT[39]? = some jm39 := rfl
theorem jT_40 : jT[40]? = some jm40 := rfl
theorem jT_41 : jT[41]? = some jm41 := rfl
theorem jT_42 : jT[42]? = some jm42 := rfl
theorem jT_43 : jT[43]? = some jm43 := rfl
theorem jT_44 : jT[44]? = some jm44 := rfl
theorem jT_45 : jT[45]? = some jm45 := rfl
theorem jT_46 : jT[46]? = some jm46 := rfl
theorem jT_47 : jT[47]? = some jm47 := rfl
theorem jT_48 : jT[48]? = some jm48 := rfl
theorem jT_49 : jT[49]? = some jm49 := rfl
theorem jT_50 : jT[50]? = some jm50 := rfl
theorem jT_51 : jT[51]? = some jm51 := rfl
theorem jT_52 : jT[52]? = some jm52 := rfl
theorem jT_53 : jT[53]? = some jm53 := rfl
theorem jT_54 : jT[54]? = some jm54 := rfl
theorem jT_55 : jT[55]? = some jm55 := rfl
theorem jT_56 : jT[56]? = some jm56 := rfl
theorem jT_57 : jT[57]? = some jm57 := rfl
theorem jT_58 : jT[58]? = some jm58 := rfl
theorem jT_59 : jT[59]? = some jm59 := rfl
theorem jT_60 : jT[60]? = some jm60 := rfl
theorem jT_61 : jT[61]? = some jm61 := rfl
theorem jT_62 : jT[62]? = some jm62 := rfl
theorem jT_63 : jT[63]? = some jm63 := rfl
theorem jT_64 : jT[64]? = some jm64 := rfl
theorem jT_65 : jT[65]? = some jm65 := rfl
theorem jT_66 : jT[66]? = some jm66 := rfl
theorem jT_67 : jT[67]? = some jm67 := rfl
theorem jT_68 : jT[68]? = some jm68 := rfl
theorem jT_69 : jT[69]? = some jm69 := rfl
theorem jT_70 : jT[70]? = some jm70 := rfl
theorem jT_71 : jT[71]? = some jm71 := rfl
theorem jT_72 : jT[72]? = some jm72 := rfl
theorem jT_73 : jT[73]? = some jm73 := rfl
theorem jT_74 : jT[74]? = some jm74 := rfl
theorem jT_75 : jT[75]? = some jm75 := rfl
theorem jT_76 : jT[76]? = some jm76 := rfl
theorem jT_77 : jT[77]? = some jm77 := rfl
theorem jT_78 : jT[78]? = some jm78 := rfl
theorem jT_79 : jT[79]? = some jm79 := rfl
theorem jT_80 : jT[80]? = some jm80 := rfl
theorem jT_81 : jT[81]? = some jm81 := rfl
theorem jT_82 : jT[82]? = some jm82 := rfl
theorem jT_83 : jT[83]? = some jm83 := rfl
theorem jT_84 : jT[84]? = some jm84 := rfl
theorem jT_85 : jT[85]? = some jm85 := rfl
theorem jT_86 : jT[86]? = some jm86 := rfl
theorem jT_87 : jT[87]? = some jm87 := rfl
theorem jT_88 : jT[88]? = some jm88 := rfl
theorem jT_89 : jT[89]? = some jm89 := rfl
theorem jT_90 : jT[90]? = some jm90 := rfl
theorem jT_91 : jT[91]? = some jm91 := rfl
theorem jT_92 : jT[92]? = some jm92 := rfl
theorem jT_93 : jT[93]? = some jm93 := rfl
theorem jT_94 : jT[94]? = some jm94 := rfl
theorem jT_95 : jT[95]? = some jm95 := rfl
theorem jT_96 : jT[96]? = some jm96 := rfl
theorem jT_97 : jT[97]? = some jm97 := rfl
theorem jT_98 : jT[98]? = some jm98 := rfl
theorem jT_99 : jT[99]? = some jm99 := rfl
theorem jT_100 : jT[100]? = some jm100 := rfl
theorem jT_101 : jT[101]? = some jm101 := rfl
theorem jT_102 : jT[102]? = some jm102 := rfl
theorem jT_103 : jT[103]? = some jm103 := rfl
theorem jT_104 : jT[104]? = some jm104 := rfl
theorem jT_105 : jT[105]? = some jm105 := rfl
theorem jT_106 : jT[106]? = some jm106 := rfl
theorem jT_107 : jT[107]? = some jm107 := rfl
theorem jT_108 : jT[108]? = some jm108 := rfl
theorem jT_109 : jT[109]? = some jm109 := rfl
theorem jT_110 : jT[110]? = some jm110 := rfl
theorem jT_111 : jT[111]? = some jm111 := rfl
theorem jT_112 : jT[112]? = some jm112 := rfl
theorem jT_113 : jT[113]? = some jm113 := rfl
theorem jT_114 : jT[114]? = some jm114 := rfl
theorem jT_115 : jT[115]? = some jm115 := rfl
theorem jT_116 : jT[116]? = some jm116 := rfl
theorem jT_117 : jT[117]? = some jm117 := rfl
theorem jT_118 : jT[118]? = some jm118 := rfl
theorem jT_119 : jT[119]? = some jm119 := rfl
theorem jT_120 : jT[120]? = some jm120 := rfl
theorem jT_121 : jT[121]? = some jm121 := rfl
theorem jT_122 : jT[122]? = some jm122 := rfl
theorem jT_123 : jT[123]? = some jm123 := rfl
theorem jT_124 : jT[124]? = some jm124 := rfl
theorem jT_125 : jT[125]? = some jm125 := rfl
theorem jT_126 : jT[126]? = some jm126 := rfl
theorem jT_127 : jT[127]? = some jm127 := rfl
theorem jT_128 : jT[128]? = some jm128 := rfl
theorem jT_129 : jT[129]? = some jm129 := rfl
theorem jT_130 : jT[130]? = some jm130 := rfl
theorem jT_131 : jT[131]? = some jm131 := rfl
theorem jT_132 : jT[132]? = some jm132 := rfl
theorem jT_133 : jT[133]? = some jm133 := rfl
theorem jT_134 : jT[134]? = some jm134 := rfl
theorem jT_135 : jT[135]? = some jm135 := rfl
theorem jT_136 : jT[136]? = some jm136 := rfl
theorem jT_137 : jT[137]? = some jm137 := rfl
theorem jT_138 : jT[138]? = some jm138 := rfl
theorem jT_139 : jT[139]? = some jm139 := rfl
theorem jT_140 : jT[140]? = some jm140 := rfl
theorem jT_141 : jT[141]? = some jm141 := rfl
theorem jT_142 : jT[142]? = some jm142 := rfl
theorem jT_143 : jT[143]? = some jm143 := rfl
theorem jT_144 : jT[144]? = some jm144 := rfl
theorem jT_145 : jT[145]? = some jm145 := rfl
theorem jT_146 : jT[146]? = some jm146 := rfl
theorem jT_147 : jT[147]? = some jm147 := rfl
theorem jT_148 : jT[148]? = some jm148 := rfl
theorem jT_149 : jT[149]? = some jm149 := rfl
theorem jT_150 : jT[150]? = some jm150 := rfl
theorem jT_151 : jT[151]? = some jm151 := rfl
theorem jT_152 : jT[152]? = some jm152 := rfl
theorem jT_153 : jT[153]? = some jm153 := rfl
theorem jT_154 : jT[154]? = some jm154 := rfl
theorem jT_155 : jT[155]? = some jm155 := rfl
theorem jT_156 : jT[156]? = some jm156 := rfl
theorem jT_157 : jT[157]? = some jm157 := rfl
theorem jT_158 : jT[158]? = some jm158 := rfl
theorem jT_159 : jT[159]? = some jm159 := rfl
theorem jT_160 : jT[160]? = some jm160 := rfl
theorem jT_161 : jT[161]? = some jm161 := rfl
theorem jT_162 : jT[162]? = some jm162 := rfl
theorem jT_163 : jT[163]? = some jm163 := rfl
theorem jT_164 : jT[164]? = some jm164 := rfl
theorem jT_165 : jT[165]? = some jm165 := rfl
theorem jT_166 : jT[166]? = some jm166 := rfl
theorem jT_167 : jT[167]? = some jm167 := rfl
theorem jT_168 : jT[168]? = some jm168 := rfl
theorem jT_169 : jT[169]? = some jm169 := rfl
theorem jT_170 : jT[170]? = some jm170 := rfl
theorem jT_171 : jT[171]? = some jm171 := rfl
theorem jT_172 : jT[172]? = some jm172 := rfl
theorem jT_173 : jT[173]? = some jm173 := rfl
theorem jT_174 : jT[174]? = some jm174 := rfl
theorem jT_175 : jT[175]? = some jm175 := rfl
theorem jT_176 : jT[176]? = some jm176 := rfl
theorem jT_177 : jT[177]? = some jm177 := rfl
theorem jT_178 : jT[178]? = some jm178 := rfl
theorem jT_179 : jT[179]? = some jm179 := rfl
theorem jT_180 : jT[180]? = some jm180 := rfl
theorem jT_181 : jT[181]? = some jm181 := rfl
theorem jT_182 : jT[182]? = some jm182 := rfl
theorem jT_183 : jT[183]? = some jm183 := rfl
theorem jT_184 : jT[184]? = some jm184 := rfl
theorem jT_185 : jT[185]? = some jm185 := rfl
theorem jT_186 : jT[186]? = some jm186 := rfl
theorem jT_187 : jT[187]? = some jm187 := rfl
theorem jT_188 : jT[188]? = some jm188 := rfl
theorem jT_189 : jT[189]? = some jm189 := rfl
theorem jT_190 : jT[190]? = some jm190 := rfl
theorem jT_191 : jT[191]? = some jm191 := rfl
theorem jT_192 : jT[192]? = some jm192 := rfl
theorem jT_193 : jT[193]? = some jm193 := rfl
theorem jT_194 : jT[194]? = some jm194 := rfl
theorem jT_195 : jT[195]? = some jm195 := rfl
theorem jT_196 : jT[196]? = some jm196 := rfl
theorem jT_197 : jT[197]? = some jm197 := rfl
theorem jT_198 : jT[198]? = some jm198 := rfl
theorem jT_199 : jT[199]? = some jm199 := rfl
theorem jT_200 : jT[200]? = some jm200 := rfl
theorem jT_201 : jT[201]? = some jm201 := rfl
theorem jT_202 : jT[202]? = some jm202 := rfl
theorem jT_203 : jT[203]? = some jm203 := rfl
theorem jT_204 : jT[204]? = some jm204 := rfl
theorem jT_205 : jT[205]? = some jm205 := rfl
theorem jT_206 : jT[206]? = some jm206 := rfl
theorem jT_207 : jT[207]? = some jm207 := rfl
theorem jT_208 : jT[208]? = some jm208 := rfl
theorem jT_209 : jT[209]? = some jm209 := rfl
theorem jT_210 : jT[210]? = some jm210 := rfl
theorem jT_211 : jT[211]? = some jm211 := rfl
theorem jT_212 : jT[212]? = some jm212 := rfl
theorem jT_213 : jT[213]? = some jm213 := rfl
theorem jT_214 : jT[214]? = some jm214 := rfl
theorem jT_215 : jT[215]? = some jm215 := rfl
theorem jT_216 : jT[216]? = some jm216 := rfl
theorem jT_217 : jT[217]? = some jm217 := rfl
theorem jT_218 : jT[218]? = some jm218 := rfl
theorem jT_219 : jT[219]? = some jm219 := rfl
theorem jT_220 : jT[220]? = some jm220 := rfl
theorem jT_221 : jT[221]? = some jm221 := rfl
theorem jT_222 : jT[222]? = some jm222 := rfl
theorem jT_223 : jT[223]? = some jm223 := rfl
theorem jT_224 : jT[224]? = some jm224 := rfl
theorem jT_225 : jT[225]? = some jm225 := rfl
theorem jT_226 : jT[226]? = some jm226 := rfl
theorem jT_227 : jT[227]? = some jm227 := rfl
theorem jT_228 : jT[228]? = some jm228 := rfl
theorem jT_229 : jT[229]? = some jm229 := rfl
theorem jT_230 : jT[230]? = some jm230 := rfl
theorem jT_231 : jT[231]? = some jm231 := rfl
theorem jT_232 : jT[232]? = some jm232 := rfl
theorem jT_233 : jT[233]? = some jm233 := rfl
theorem jT_234 : jT[234]? = some jm234 := rfl
theorem jT_235 : jT[235]? = some jm235 := rfl
theorem jT_236 : jT[236]? = some jm236 := rfl
theorem jT_237 : jT[237]? = some jm237 := rfl
theorem jT_238 : jT[238]? = some jm238 := rfl
theorem jT_239 : jT[239]? = some jm239 := rfl
theorem jT_240 : jT[240]? = some jm240 := rfl
theorem jT_241 : jT[241]? = some jm241 := rfl
theorem jT_242 : jT[242]? = some jm242 := rfl
theorem jT_243 : jT[243]? = some jm243 := rfl
theorem jT_244 : jT[244]? = some jm244 := rfl
theorem jT_245 : jT[245]? = some jm245 := rfl
theorem jT_246 : jT[246]? = some jm246 := rfl
theorem jT_247 : jT[247]? = some jm247 := rfl
theorem jT_248 : jT[248]? = some jm248 := rfl
theorem jT_249 : jT[249]? = some jm249 := rfl
theorem jT_250 : jT[250]? = some jm250 := rfl
theorem jT_251 : jT[251]? = some jm251 := rfl
theorem jT_252 : jT[252]? = some jm252 := rfl
theorem jT_253 : jT[253]? = some jm253 := rfl
theorem jT_254 : jT[254]? = some jm254 := rfl
theorem jT_255 : jT[255]? = some jm255 := rfl
theorem jT_256 : jT[256]? = some jm256 := rfl
theorem jT_257 : jT[257]? = some jm257 := rfl
theorem jT_258 : jT[258]? = some jm258 := rfl
theorem jT_259 : jT[259]? = some jm259 := rfl
theorem jT_260 : jT[260]? = some jm260 := rfl
theorem jT_261 : jT[261]? = some jm261 := rfl
theorem jT_262 : jT[262]? = some jm262 := rfl
theorem jT_263 : jT[263]? = some jm263 := rfl
theorem jT_264 : jT[264]? = some jm264 := rfl
theorem jT_265 : jT[265]? = some jm265 := rfl
theorem jT_266 : jT[266]? = some jm266 := rfl
theorem jT_267 : jT[267]? = some jm267 := rfl
theorem jT_268 : jT[268]? = some jm268 := rfl
theorem nk0 : jNok jTs jm0 := ⟨jmem 698 (by rfl) rfl, jmem 114 (by decide +kernel) rfl, by decide +kernel, by decide +kernel⟩
theorem nk1 : jNok jTs jm1 := ⟨jmem 220 (by rfl) rfl, jmem 104 (by decide +kernel) rfl, by decide +kernel, by decide +kernel⟩
theorem nk2 : jNok jTs jm2 := ⟨jmem 800 (by rfl) rfl, jmem 121 (by decide +kernel) rfl, by decide +kernel, by decide +kernel⟩
theorem nk3 : jNok jTs jm3 := ⟨jmem 826 (by rfl) rfl, jmem 121 (by decide +kernel) rfl, by decide +kernel, by decide +kernel⟩
theorem nk4 : jNok jTs jm4 := ⟨jmem 216 (by rfl) rfl, jmem 103 (by decide +kernel) rfl, by decide +kernel, by decide +kernel⟩
theorem nk5 : jNok jTs jm5 := ⟨jmem 838 (by rfl) rfl, jmem 103 (by decide +kernel) rfl, by decide +kernel, by decide +kernel⟩
theorem nk6 : jNok jTs jm6 := ⟨jmem 852 (by rfl) rfl, jmem 103 (by decide +kernel) rfl, by decide +kernel, by decide +kernel⟩
theorem nk7 : jNok jTs jm7 := ⟨jmem 864 (by rfl) rfl, jmem 103 (by decide +kernel) rfl, by decide +kernel, by decide +kernel⟩
theorem nk8 : jNok jTs jm8 := ⟨jmem 856 (by rfl) rfl, jmem 103 (by decide +kernel) rfl, by decide +kernel, by decide +kernel⟩
theorem nk9 : jNok jTs jm9 := ⟨jmem 860 (by rfl) rfl, jmem 103 (by decide +kernel) rfl, by decide +kernel, by decide +kernel⟩
theorem nk10 : jNok jTs jm10 := ⟨jmem 868 (by rfl) rfl, jmem 103 (by decide +kernel) rfl, by decide +kernel, by decide +kernel⟩
theorem nk11 : jNok jTs jm11 := ⟨jmem 189 (by rfl) rfl, jmem 102 (by decide +kernel) rfl, by decide +kernel, by decide +kernel⟩
theorem nk12 : jNok jTs jm12 := ⟨jmem 595 (by rfl) rfl, jmem 102 (by decide +kernel) rfl, by decide +kernel, by decide +kernel⟩
theorem nk13 : jNok jTs jm13 := ⟨jmem 599 (by rfl) rfl, jmem 102 (by decide +kernel) rfl, by decide +kernel, by decide +kernel⟩
theorem nk14 : jNok jTs jm14 := ⟨jmem 1203 (by rfl) rfl, jmem 102 (by decide +kernel) rfl, by decide +kernel, by decide +kernel⟩
theorem nk15 : jNok jTs jm15 := ⟨jmem 1239 (by rfl) rfl, jmem 102 (by decide +kernel) rfl, by decide +kernel, by decide +kernel⟩
theorem nk16 : jNok jTs jm16 := ⟨jmem 729 (by rfl) rfl, jmem 102 (by decide +kernel) rfl, by decide +kernel, by decide +kernel⟩
theorem nk17 : jNok jTs jm17 := ⟨jmem 1084 (by rfl) rfl, jmem 102 (by decide +kernel) rfl, by decide +kernel, by decide +kernel⟩
theorem nk18 : jNok jTs jm18 := ⟨jmem 1234 (by rfl) rfl, jmem 102 (by decide +kernel) rfl, by decide +kernel, by decide +kernel⟩
theorem nk19 : jNok jTs jm19 := ⟨jmem 733 (by rfl) rfl, jmem 102 (by decide +kernel) rfl, by decide +kernel, by decide +kernel⟩
theorem nk20 : jNok jTs jm20 := ⟨jmem 846 (by rfl) rfl, jmem 102 (by decide +kernel) rfl, by decide +kernel, by decide +kernel⟩
theorem nk21 : jNok jTs jm21 := ⟨jmem 480 (by rfl) rfl, jmem 111 (by decide +kernel) rfl, by decide +kernel, by decide +kernel⟩
theorem nk22 : jNok jTs jm22 := ⟨jmem 608 (by rfl) rfl, jmem 111 (by decide +kernel) rfl, by decide +kernel, by decide +kernel⟩
theorem nk23 : jNok jTs jm23 := ⟨jmem 620 (by rfl) rfl, jmem 111 (by decide +kernel) rfl, by decide +kernel, by decide +kernel⟩
theorem nk24 : jNok jTs jm24 := ⟨jmem 815 (by rfl) rfl, jmem 111 (by decide +kernel) rfl, by decide +kernel, by decide +kernel⟩
theorem nk25 : jNok jTs jm25 := ⟨jmem 819 (by rfl) rfl, jmem 111 (by decide +kernel) rfl, by decide +kernel, by decide +kernel⟩
theorem nk26 : jNok jTs jm26 := ⟨jmem 834 (by rfl) rfl, jmem 111 (by decide +kernel) rfl, by decide +kernel, by decide +kernel⟩
theorem nk27 : jNok jTs jm27 := ⟨jmem 872 (by rfl) rfl, jmem 111 (by decide +kernel) rfl, by decide +kernel, by decide +kernel⟩
theorem nk28 : jNok jTs jm28 := ⟨jmem 876 (by rfl) rfl, jmem 111 (by decide +kernel) rfl, by decide +kernel, by decide +kernel⟩
theorem nk29 : jNok jTs jm29 := ⟨jmem 882 (by rfl) rfl, jmem 111 (by decide +kernel) rfl, by decide +kernel, by decide +kernel⟩
theorem nk30 : jNok jTs jm30 := ⟨jmem 1345 (by rfl) rfl, jmem 111 (by decide +kernel) rfl, by decide +kernel, by decide +kernel⟩
theorem nk31 : jNok jTs jm31 := ⟨jmem 1341 (by rfl) rfl, jmem 111 (by decide +kernel) rfl, by decide +kernel, by decide +kernel⟩
theorem nk32 : jNok jTs jm32 := ⟨jmem 1364 (by rfl) rfl, jmem 111 (by decide +kernel) rfl, by decide +kernel, by decide +kernel⟩
theorem nk33 : jNok jTs jm33 := ⟨jmem 1369 (by rfl) rfl, jmem 111 (by decide +kernel) rfl, by decide +kernel, by decide +kernel⟩
theorem nk34 : jNok jTs jm34 := ⟨jmem 346 (by rfl) rfl, jmem 107 (by decide +kernel) rfl, by decide +kernel, by decide +kernel⟩
theorem nk35 : jNok jTs jm35 := ⟨jmem 886 (by rfl) rfl, jmem 107 (by decide +kernel) rfl, by decide +kernel, by decide +kernel⟩
theorem nk36 : jNok jTs jm36 := ⟨jmem 915 (by rfl) rfl, jmem 107 (by decide +kernel) rfl, by decide +kernel, by decide +kernel⟩
theorem nk37 : jNok jTs jm37 := ⟨jmem 896 (by rfl) rfl, jmem 107 (by decide +kernel) rfl, by decide +kernel, by decide +kernel⟩
theorem nk38 : jNok jTs jm38 := ⟨jmem 1265 (by rfl) rfl, jmem 107 (by decide +kernel) rfl, by decide +kernel, by decide +kernel⟩
theorem nk39 : jNok jTs jm39 := ⟨jmem 141 (by rfl) rfl, jmem 101 (by decide +kernel) rfl, by decide +kernel, by decide +kernel⟩
theorem nk40 : jNok jTs jm40 := ⟨jmem 953 (by rfl) rfl, jmem 101 (by decide +kernel) rfl, by decide +kernel, by decide +kernel⟩
theorem nk41 : jNok jTs jm41 := ⟨jmem 957 (by rfl) rfl, jmem 101 (by decide +kernel) rfl, by decide +kernel, by decide +kernel⟩
theorem nk42 : jNok jTs jm42 := ⟨jmem 535 (by rfl) rfl, jmem 101 (by decide +kernel) rfl, by decide +kernel, by decide +kernel⟩
theorem nk43 : jNok jTs jm43 := ⟨jmem 539 (by rfl) rfl, jmem 101 (by decide +kernel) rfl, by decide +kernel, by decide +kernel⟩
theorem nk44 : jNok jTs jm44 := ⟨jmem 543 (by rfl) rfl, jmem 101 (by decide +kernel) rfl, by decide +kernel, by decide +kernel⟩
theorem nk45 : jNok jTs jm45 := ⟨jmem 547 (by rfl) rfl, jmem 101 (by decide +kernel) rfl, by decide +kernel, by decide +kernel⟩
theorem nk46 : jNok jTs jm46 := ⟨jmem 555 (by rfl) rfl, jmem 101 (by decide +kernel) rfl, by decide +kernel, by decide +kernel⟩
theorem nk47 : jNok jTs jm47 := ⟨jmem 563 (by rfl) rfl, jmem 101 (by decide +kernel) rfl, by decide +kernel, by decide +kernel⟩
theorem nk48 : jNok jTs jm48 := ⟨jmem 568 (by rfl) rfl, jmem 101 (by decide +kernel) rfl, by decide +kernel, by decide +kernel⟩
theorem nk49 : jNok jTs jm49 := ⟨jmem 1230 (by rfl) rfl, jmem 101 (by decide +kernel) rfl, by decide +kernel, by decide +kernel⟩
theorem nk50 : jNok jTs jm50 := ⟨jmem 551 (by rfl) rfl, jmem 101 (by decide +kernel) rfl, by decide +kernel, by decide +kernel⟩
theorem nk51 : jNok jTs jm51 := ⟨jmem 559 (by rfl) rfl, jmem 101 (by decide +kernel) rfl, by decide +kernel, by decide +kernel⟩
theorem nk52 : jNok jTs jm52 := ⟨jmem 789 (by rfl) rfl, jmem 101 (by decide +kernel) rfl, by decide +kernel, by decide +kernel⟩
theorem nk53 : jNok jTs jm53 := ⟨jmem 793 (by rfl) rfl, jmem 101 (by decide +kernel) rfl, by decide +kernel, by decide +kernel⟩
theorem nk54 : jNok jTs jm54 := ⟨jmem 1051 (by rfl) rfl, jmem 101 (by decide +kernel) rfl, by decide +kernel, by decide +kernel⟩
theorem nk55 : jNok jTs jm55 := ⟨jmem 1056 (by rfl) rfl, jmem 101 (by decide +kernel) rfl, by decide +kernel, by decide +kernel⟩
theorem nk56 : jNok jTs jm56 := ⟨jmem 408 (by rfl) rfl, jmem 109 (by decide +kernel) rfl, by decide +kernel, by decide +kernel⟩
theorem nk57 : jNok jTs jm57 := ⟨jmem 921 (by rfl) rfl, jmem 109 (by decide +kernel) rfl, by decide +kernel, by decide +kernel⟩
theorem nk58 : jNok jTs jm58 := ⟨jmem 927 (by rfl) rfl, jmem 109 (by decide +kernel) rfl, by decide +kernel, by decide +kernel⟩
theorem nk59 : jNok jTs jm59 := ⟨jmem 938 (by rfl) rfl, jmem 109 (by decide +kernel) rfl, by decide +kernel, by decide +kernel⟩
theorem nk60 : jNok jTs jm60 := ⟨jmem 932 (by rfl) rfl, jmem 109 (by decide +kernel) rfl, by decide +kernel, by decide +kernel⟩
theorem nk61 : jNok jTs jm61 := ⟨jmem 942 (by rfl) rfl, jmem 109 (by decide +kernel) rfl, by decide +kernel, by decide +kernel⟩
theorem nk62 : jNok jTs jm62 := ⟨jmem 1277 (by rfl) rfl, jmem 109 (by decide +kernel) rfl, by decide +kernel, by decide +kernel⟩
theorem nk63 : jNok jTs jm63 := ⟨jmem 352 (by rfl) rfl, jmem 108 (by decide +kernel) rfl, by decide +kernel, by decide +kernel⟩
theorem nk64 : jNok jTs jm64 := ⟨jmem 890 (by rfl) rfl, jmem 108 (by decide +kernel) rfl, by decide +kernel, by decide +kernel⟩
theorem nk65 : jNok jTs jm65 := ⟨jmem 900 (by rfl) rfl, jmem 108 (by decide +kernel) rfl, by decide +kernel, by decide +kernel⟩
theorem nk66 : jNok jTs jm66 := ⟨jmem 905 (by rfl) rfl, jmem 108 (by decide +kernel) rfl, by decide +kernel, by decide +kernel⟩
theorem nk67 : jNok jTs jm67 := ⟨jmem 309 (by rfl) rfl, jmem 106 (by decide +kernel) rfl, by decide +kernel, by decide +kernel⟩
theorem nk68 : jNok jTs jm68 := ⟨jmem 822 (by rfl) rfl, jmem 106 (by decide +kernel) rfl, by decide +kernel, by decide +kernel⟩
theorem nk69 : jNok jTs jm69 := ⟨jmem 591 (by rfl) rfl, jmem 106 (by decide +kernel) rfl, by decide +kernel, by decide +kernel⟩
theorem nk70 : jNok jTs jm70 := ⟨jmem 588 (by rfl) rfl, jmem 106 (by decide +kernel) rfl, by decide +kernel, by decide +kernel⟩
theorem nk71 : jNok jTs jm71 := ⟨jmem 576 (by rfl) rfl, jmem 106 (by decide +kernel) rfl, by decide +kernel, by decide +kernel⟩
theorem nk72 : jNok jTs jm72 := ⟨jmem 572 (by rfl) rfl, jmem 106 (by decide +kernel) rfl, by decide +kernel, by decide +kernel⟩
theorem nk73 : jNok jTs jm73 := ⟨jmem 580 (by rfl) rfl, jmem 106 (by decide +kernel) rfl, by decide +kernel, by decide +kernel⟩
theorem nk74 : jNok jTs jm74 := ⟨jmem 584 (by rfl) rfl, jmem 106 (by decide +kernel) rfl, by decide +kernel, by decide +kernel⟩
theorem nk75 : jNok jTs jm75 := ⟨jmem 842 (by rfl) rfl, jmem 106 (by decide +kernel) rfl, by decide +kernel, by decide +kernel⟩
theorem nk76 : jNok jTs jm76 := ⟨jmem 756 (by rfl) rfl, jmem 106 (by decide +kernel) rfl, by decide +kernel, by decide +kernel⟩
theorem nk77 : jNok jTs jm77 := ⟨jmem 748 (by rfl) rfl, jmem 106 (by decide +kernel) rfl, by decide +kernel, by decide +kernel⟩
theorem nk78 : jNok jTs jm78 := ⟨jmem 761 (by rfl) rfl, jmem 106 (by decide +kernel) rfl, by decide +kernel, by decide +kernel⟩
theorem nk79 : jNok jTs jm79 := ⟨jmem 695 (by rfl) rfl, jmem 106 (by decide +kernel) rfl, by decide +kernel, by decide +kernel⟩
theorem nk80 : jNok jTs jm80 := ⟨jmem 741 (by rfl) rfl, jmem 106 (by decide +kernel) rfl, by decide +kernel, by decide +kernel⟩
theorem nk81 : jNok jTs jm81 := ⟨jmem 744 (by rfl) rfl, jmem 106 (by decide +kernel) rfl, by decide +kernel, by decide +kernel⟩
theorem nk82 : jNok jTs jm82 := ⟨jmem 713 (by rfl) rfl, jmem 106 (by decide +kernel) rfl, by decide +kernel, by decide +kernel⟩
theorem nk83 : jNok jTs jm83 := ⟨jmem 243 (by rfl) rfl, jmem 105 (by decide +kernel) rfl, by decide +kernel, by decide +kernel⟩
theorem nk84 : jNok jTs jm84 := ⟨jmem 1395 (by rfl) rfl, jmem 105 (by decide +kernel) rfl, by decide +kernel, by decide +kernel⟩
theorem nk85 : jNok jTs jm85 := ⟨jmem 808 (by rfl) rfl, jmem 105 (by decide +kernel) rfl, by decide +kernel, by decide +kernel⟩
theorem nk86 : jNok jTs jm86 := ⟨jmem 1399 (by rfl) rfl, jmem 105 (by decide +kernel) rfl, by decide +kernel, by decide +kernel⟩
theorem nk87 : jNok jTs jm87 := ⟨jmem 1405 (by rfl) rfl, jmem 105 (by decide +kernel) rfl, by decide +kernel, by decide +kernel⟩
theorem nk88 : jNok jTs jm88 := ⟨jmem 1409 (by rfl) rfl, jmem 105 (by decide +kernel) rfl, by decide +kernel, by decide +kernel⟩
theorem nk89 : jNok jTs jm89 := ⟨jmem 1423 (by rfl) rfl, jmem 105 (by decide +kernel) rfl, by decide +kernel, by decide +kernel⟩
theorem nk90 : jNok jTs jm90 := ⟨jmem 1419 (by rfl) rfl, jmem 105 (by decide +kernel) rfl, by decide +kernel, by decide +kernel⟩
theorem nk91 : jNok jTs jm91 := ⟨jmem 1428 (by rfl) rfl, jmem 105 (by decide +kernel) rfl, by decide +kernel, by decide +kernel⟩
theorem nk92 : jNok jTs jm92 := ⟨jmem 1413 (by rfl) rfl, jmem 105 (by decide +kernel) rfl, by decide +kernel, by decide +kernel⟩
theorem nk93 : jNok jTs jm93 := ⟨jmem 135 (by rfl) rfl, jmem 100 (by decide +kernel) rfl, by decide +kernel, by decide +kernel⟩
theorem nk94 : jNok jTs jm94 := ⟨jmem 616 (by rfl) rfl, jmem 100 (by decide +kernel) rfl, by decide +kernel, by decide +kernel⟩
theorem nk95 : jNok jTs jm95 := ⟨jmem 1380 (by rfl) rfl, jmem 100 (by decide +kernel) rfl, by decide +kernel, by decide +kernel⟩
theorem nk96 : jNok jTs jm96 := ⟨jmem 1386 (by rfl) rfl, jmem 100 (by decide +kernel) rfl, by decide +kernel, by decide +kernel⟩
theorem nk97 : jNok jTs jm97 := ⟨jmem 1391 (by rfl) rfl, jmem 100 (by decide +kernel) rfl, by decide +kernel, by decide +kernel⟩
theorem nk98 : jNok jTs jm98 := ⟨jmem 766 (by rfl) rfl, jmem 100 (by decide +kernel) rfl, by decide +kernel, by decide +kernel⟩
theorem nk99 : jNok jTs jm99 := ⟨jmem 770 (by rfl) rfl, jmem 100 (by decide +kernel) rfl, by decide +kernel, by decide +kernel⟩
theorem nk100 : jNok jTs jm100 := ⟨jmem 776 (by rfl) rfl, jmem 100 (by decide +kernel) rfl, by decide +kernel, by decide +kernel⟩
theorem nk101 : jNok jTs jm101 := ⟨jmem 804 (by rfl) rfl, jmem 100 (by decide +kernel) rfl, by decide +kernel, by decide +kernel⟩
theorem nk102 : jNok jTs jm102 := ⟨jmem 781 (by rfl) rfl, jmem 100 (by decide +kernel) rfl, by decide +kernel, by decide +kernel⟩
theorem nk103 : jNok jTs jm103 := ⟨jmem 785 (by rfl) rfl, jmem 100 (by decide +kernel) rfl, by decide +kernel, by decide +kernel⟩
theorem nk104 : jNok jTs jm104 := ⟨jmem 797 (by rfl) rfl, jmem 100 (by decide +kernel) rfl, by decide +kernel, by decide +kernel⟩
theorem nk105 : jNok jTs jm105 := ⟨jmem 443 (by rfl) rfl, jmem 110 (by decide +kernel) rfl, by decide +kernel, by decide +kernel⟩
theorem nk106 : jNok jTs jm106 := ⟨jmem 1291 (by rfl) rfl, jmem 110 (by decide +kernel) rfl, by decide +kernel, by decide +kernel⟩
theorem nk107 : jNok jTs jm107 := ⟨jmem 1303 (by rfl) rfl, jmem 110 (by decide +kernel) rfl, by decide +kernel, by decide +kernel⟩
theorem nk108 : jNok jTs jm108 := ⟨jmem 1298 (by rfl) rfl, jmem 110 (by decide +kernel) rfl, by decide +kernel, by decide +kernel⟩
theorem nk109 : jNok jTs jm109 := ⟨jmem 127 (by rfl) rfl, jmem 99 (by decide +kernel) rfl, by decide +kernel, by decide +kernel⟩
theorem nk110 : jNok jTs jm110 := ⟨jmem 950 (by rfl) rfl, jmem 99 (by decide +kernel) rfl, by decide +kernel, by decide +kernel⟩
theorem nk111 : jNok jTs jm111 := ⟨jmem 1033 (by rfl) rfl, jmem 99 (by decide +kernel) rfl, by decide +kernel, by decide +kernel⟩
theorem nk112 : jNok jTs jm112 := ⟨jmem 1046 (by rfl) rfl, jmem 99 (by decide +kernel) rfl, by decide +kernel, by decide +kernel⟩
theorem nk113 : jNok jTs jm113 := ⟨jmem 690 (by rfl) rfl, jmem 99 (by decide +kernel) rfl, by decide +kernel, by decide +kernel⟩
theorem nk114 : jNok jTs jm114 := ⟨jmem 1064 (by rfl) rfl, jmem 99 (by decide +kernel) rfl, by decide +kernel, by decide +kernel⟩
theorem nk115 : jNok jTs jm115 := ⟨jmem 1091 (by rfl) rfl, jmem 99 (by decide +kernel) rfl, by decide +kernel, by decide +kernel⟩
theorem nk116 : jNok jTs jm116 := ⟨jmem 1099 (by rfl) rfl, jmem 99 (by decide +kernel) rfl, by decide +kernel, by decide +kernel⟩
theorem nk117 : jNok jTs jm117 := ⟨jmem 1108 (by rfl) rfl, jmem 99 (by decide +kernel) rfl, by decide +kernel, by decide +kernel⟩
theorem nk118 : jNok jTs jm118 := ⟨jmem 1144 (by rfl) rfl, jmem 99 (by decide +kernel) rfl, by decide +kernel, by decide +kernel⟩
theorem nk119 : jNok jTs jm119 := ⟨jmem 1152 (by rfl) rfl, jmem 99 (by decide +kernel) rfl, by decide +kernel, by decide +kernel⟩
theorem nk120 : jNok jTs jm120 := ⟨jmem 1171 (by rfl) rfl, jmem 99 (by decide +kernel) rfl, by decide +kernel, by decide +kernel⟩
theorem nk121 : jNok jTs jm121 := ⟨jmem 1195 (by rfl) rfl, jmem 99 (by decide +kernel) rfl, by decide +kernel, by decide +kernel⟩
theorem nk122 : jNok jTs jm122 := ⟨jmem 1210 (by rfl) rfl, jmem 99 (by decide +kernel) rfl, by decide +kernel, by decide +kernel⟩
theorem nk123 : jNok jTs jm123 := ⟨jmem 1218 (by rfl) rfl, jmem 99 (by decide +kernel) rfl, by decide +kernel, by decide +kernel⟩
theorem nk124 : jNok jTs jm124 := ⟨jmem 705 (by rfl) rfl, jmem 99 (by decide +kernel) rfl, by decide +kernel, by decide +kernel⟩
theorem nk125 : jNok jTs jm125 := ⟨jmem 709 (by rfl) rfl, jmem 99 (by decide +kernel) rfl, by decide +kernel, by decide +kernel⟩
theorem nk126 : jNok jTs jm126 := ⟨jmem 1226 (by rfl) rfl, jmem 99 (by decide +kernel) rfl, by decide +kernel, by decide +kernel⟩
theorem nk127 : jNok jTs jm127 := ⟨jmem 1249 (by rfl) rfl, jmem 99 (by decide +kernel) rfl, by decide +kernel, by decide +kernel⟩
theorem nk128 : jNok jTs jm128 := ⟨jmem 1260 (by rfl) rfl, jmem 99 (by decide +kernel) rfl, by decide +kernel, by decide +kernel⟩
theorem nk129 : jNok jTs jm129 := ⟨jmem 1272 (by rfl) rfl, jmem 99 (by decide +kernel) rfl, by decide +kernel, by decide +kernel⟩
theorem nk130 : jNok jTs jm130 := ⟨jmem 1286 (by rfl) rfl, jmem 99 (by decide +kernel) rfl, by decide +kernel, by decide +kernel⟩
theorem nk131 : jNok jTs jm131 := ⟨jmem 1313 (by rfl) rfl, jmem 99 (by decide +kernel) rfl, by decide +kernel, by decide +kernel⟩
theorem nk132 : jNok jTs jm132 := ⟨jmem 1321 (by rfl) rfl, jmem 99 (by decide +kernel) rfl, by decide +kernel, by decide +kernel⟩
theorem nk133 : jNok jTs jm133 := ⟨jmem 1328 (by rfl) rfl, jmem 99 (by decide +kernel) rfl, by decide +kernel, by decide +kernel⟩
theorem nk134 : jNok jTs jm134 := ⟨jmem 1336 (by rfl) rfl, jmem 99 (by decide +kernel) rfl, by decide +kernel, by decide +kernel⟩
theorem nk135 : jNok jTs jm135 := ⟨jmem 1352 (by rfl) rfl, jmem 99 (by decide +kernel) rfl, by decide +kernel, by decide +kernel⟩
theorem nk136 : jNok jTs jm136 := ⟨jmem 1360 (by rfl) rfl, jmem 99 (by decide +kernel) rfl, by decide +kernel, by decide +kernel⟩
theorem nk137 : jNok jTs jm137 := ⟨jmem 1376 (by rfl) rfl, jmem 99 (by decide +kernel) rfl, by decide +kernel, by decide +kernel⟩
theorem nk138 : jNok jTs jm138 := ⟨jmem 717 (by rfl) rfl, jmem 99 (by decide +kernel) rfl, by decide +kernel, by decide +kernel⟩
theorem nk139 : jNok jTs jm139 := ⟨jmem 725 (by rfl) rfl, jmem 99 (by decide +kernel) rfl, by decide +kernel, by decide +kernel⟩
theorem nk140 : jNok jTs jm140 := ⟨jmem 737 (by rfl) rfl, jmem 99 (by decide +kernel) rfl, by decide +kernel, by decide +kernel⟩
theorem nk141 : jNok jTs jm141 := ⟨jmem 531 (by rfl) rfl, jmem 99 (by decide +kernel) rfl, by decide +kernel, by decide +kernel⟩
theorem nk142 : jNok jTs jm142 := ⟨jmem 612 (by rfl) rfl, jmem 99 (by decide +kernel) rfl, by decide +kernel, by decide +kernel⟩
theorem nk143 : jNok jTs jm143 := ⟨jmem 624 (by rfl) rfl, jmem 99 (by decide +kernel) rfl, by decide +kernel, by decide +kernel⟩
theorem nk144 : jNok jTs jm144 := ⟨jmem 628 (by rfl) rfl, jmem 99 (by decide +kernel) rfl, by decide +kernel, by decide +kernel⟩
theorem nk145 : jNok jTs jm145 := ⟨jmem 721 (by rfl) rfl, jmem 99 (by decide +kernel) rfl, by decide +kernel, by decide +kernel⟩
theorem nk146 : jNok jTs jm146 := ⟨jmem 1039 (by rfl) rfl, jmem 99 (by decide +kernel) rfl, by decide +kernel, by decide +kernel⟩
theorem nk147 : jNok jTs jm147 := ⟨jmem 1111 (by rfl) rfl, jmem 99 (by decide +kernel) rfl, by decide +kernel, by decide +kernel⟩
theorem nk148 : jNok jTs jm148 := ⟨jmem 811 (by rfl) rfl, jmem 99 (by decide +kernel) rfl, by decide +kernel, by decide +kernel⟩
theorem nk149 : jNok jTs jm149 := ⟨jmem 1155 (by rfl) rfl, jmem 99 (by decide +kernel) rfl, by decide +kernel, by decide +kernel⟩
theorem nk150 : jNok jTs jm150 := ⟨jmem 1198 (by rfl) rfl, jmem 99 (by decide +kernel) rfl, by decide +kernel, by decide +kernel⟩
theorem nk151 : jNok jTs jm151 := ⟨jmem 1252 (by rfl) rfl, jmem 99 (by decide +kernel) rfl, by decide +kernel, by decide +kernel⟩
theorem nk152 : jNok jTs jm152 := ⟨jmem 1116 (by rfl) rfl, jmem 99 (by decide +kernel) rfl, by decide +kernel, by decide +kernel⟩
theorem nk153 : jNok jTs jm153 := ⟨jmem 1137 (by rfl) rfl, jmem 99 (by decide +kernel) rfl, by decide +kernel, by decide +kernel⟩
theorem nk154 : jNok jTs jm154 := ⟨jmem 1159 (by rfl) rfl, jmem 99 (by decide +kernel) rfl, by decide +kernel, by decide +kernel⟩
theorem nk155 : jNok jTs jm155 := ⟨jmem 1162 (by rfl) rfl, jmem 99 (by decide +kernel) rfl, by decide +kernel, by decide +kernel⟩
theorem nk156 : jNok jTs jm156 := ⟨jmem 752 (by rfl) rfl, jmem 99 (by decide +kernel) rfl, by decide +kernel, by decide +kernel⟩
theorem nk157 : jNok jTs jm157 := ⟨jmem 1433 (by rfl) rfl, jmem 113 (by decide +kernel) rfl, by decide +kernel, by decide +kernel⟩
theorem nk158 : jNok jTs jm158 := ⟨jmem 1654 (by rfl) rfl, jmem 113 (by decide +kernel) rfl, by decide +kernel, by decide +kernel⟩
theorem nk159 : jNok jTs jm159 := ⟨jmem 1661 (by rfl) rfl, jmem 113 (by decide +kernel) rfl, by decide +kernel, by decide +kernel⟩
theorem nk160 : jNok jTs jm160 := ⟨jmem 1665 (by rfl) rfl, jmem 113 (by decide +kernel) rfl, by decide +kernel, by decide +kernel⟩
theorem nk161 : jNok jTs jm161 := ⟨jmem 1677 (by rfl) rfl, jmem 113 (by decide +kernel) rfl, by decide +kernel, by decide +kernel⟩
theorem nk162 : jNok jTs jm162 := ⟨jmem 1753 (by rfl) rfl, jmem 113 (by decide +kernel) rfl, by decide +kernel, by decide +kernel⟩
theorem nk163 : jNok jTs jm163 := ⟨jmem 1749 (by rfl) rfl, jmem 113 (by decide +kernel) rfl, by decide +kernel, by decide +kernel⟩
theorem nk164 : jNok jTs jm164 := ⟨jmem 1443 (by rfl) rfl, jmem 113 (by decide +kernel) rfl, by decide +kernel, by decide +kernel⟩
theorem nk165 : jNok jTs jm165 := ⟨jmem 1439 (by rfl) rfl, jmem 113 (by decide +kernel) rfl, by decide +kernel, by decide +kernel⟩
theorem nk166 : jNok jTs jm166 := ⟨jmem 1447 (by rfl) rfl, jmem 113 (by decide +kernel) rfl, by decide +kernel, by decide +kernel⟩
theorem nk167 : jNok jTs jm167 := ⟨jmem 1673 (by rfl) rfl, jmem 113 (by decide +kernel) rfl, by decide +kernel, by decide +kernel⟩
theorem nk168 : jNok jTs jm168 := ⟨jmem 1720 (by rfl) rfl, jmem 113 (by decide +kernel) rfl, by decide +kernel, by decide +kernel⟩
theorem nk169 : jNok jTs jm169 := ⟨jmem 1658 (by rfl) rfl, jmem 113 (by decide +kernel) rfl, by decide +kernel, by decide +kernel⟩
theorem nk170 : jNok jTs jm170 := ⟨jmem 1669 (by rfl) rfl, jmem 113 (by decide +kernel) rfl, by decide +kernel, by decide +kernel⟩
theorem nk171 : jNok jTs jm171 := ⟨jmem 1741 (by rfl) rfl, jmem 113 (by decide +kernel) rfl, by decide +kernel, by decide +kernel⟩
theorem nk172 : jNok jTs jm172 := ⟨jmem 1737 (by rfl) rfl, jmem 113 (by decide +kernel) rfl, by decide +kernel, by decide +kernel⟩
theorem nk173 : jNok jTs jm173 := ⟨jmem 1712 (by rfl) rfl, jmem 113 (by decide +kernel) rfl, by decide +kernel, by decide +kernel⟩
theorem nk174 : jNok jTs jm174 := ⟨jmem 1716 (by rfl) rfl, jmem 113 (by decide +kernel) rfl, by decide +kernel, by decide +kernel⟩
theorem nk175 : jNok jTs jm175 := ⟨jmem 1833 (by rfl) rfl, jmem 113 (by decide +kernel) rfl, by decide +kernel, by decide +kernel⟩
theorem nk176 : jNok jTs jm176 := ⟨jmem 1837 (by rfl) rfl, jmem 113 (by decide +kernel) rfl, by decide +kernel, by decide +kernel⟩
theorem nk177 : jNok jTs jm177 := ⟨jmem 1845 (by rfl) rfl, jmem 113 (by decide +kernel) rfl, by decide +kernel, by decide +kernel⟩
theorem nk178 : jNok jTs jm178 := ⟨jmem 1841 (by rfl) rfl, jmem 113 (by decide +kernel) rfl, by decide +kernel, by decide +kernel⟩
theorem nk179 : jNok jTs jm179 := ⟨jmem 1829 (by rfl) rfl, jmem 113 (by decide +kernel) rfl, by decide +kernel, by decide +kernel⟩
theorem nk180 : jNok jTs jm180 := ⟨jmem 1849 (by rfl) rfl, jmem 113 (by decide +kernel) rfl, by decide +kernel, by decide +kernel⟩
theorem nk181 : jNok jTs jm181 := ⟨jmem 1692 (by rfl) rfl, jmem 113 (by decide +kernel) rfl, by decide +kernel, by decide +kernel⟩
theorem nk182 : jNok jTs jm182 := ⟨jmem 1704 (by rfl) rfl, jmem 113 (by decide +kernel) rfl, by decide +kernel, by decide +kernel⟩
theorem nk183 : jNok jTs jm183 := ⟨jmem 1700 (by rfl) rfl, jmem 113 (by decide +kernel) rfl, by decide +kernel, by decide +kernel⟩
theorem nk184 : jNok jTs jm184 := ⟨jmem 1696 (by rfl) rfl, jmem 113 (by decide +kernel) rfl, by decide +kernel, by decide +kernel⟩
theorem nk185 : jNok jTs jm185 := ⟨jmem 1688 (by rfl) rfl, jmem 113 (by decide +kernel) rfl, by decide +kernel, by decide +kernel⟩
theorem nk186 : jNok jTs jm186 := ⟨jmem 1684 (by rfl) rfl, jmem 113 (by decide +kernel) rfl, by decide +kernel, by decide +kernel⟩
theorem nk187 : jNok jTs jm187 := ⟨jmem 1681 (by rfl) rfl, jmem 113 (by decide +kernel) rfl, by decide +kernel, by decide +kernel⟩
theorem nk188 : jNok jTs jm188 := ⟨jmem 1886 (by rfl) rfl, jmem 113 (by decide +kernel) rfl, by decide +kernel, by decide +kernel⟩
theorem nk189 : jNok jTs jm189 := ⟨jmem 1729 (by rfl) rfl, jmem 113 (by decide +kernel) rfl, by decide +kernel, by decide +kernel⟩
theorem nk190 : jNok jTs jm190 := ⟨jmem 1708 (by rfl) rfl, jmem 113 (by decide +kernel) rfl, by decide +kernel, by decide +kernel⟩
theorem nk191 : jNok jTs jm191 := ⟨jmem 1724 (by rfl) rfl, jmem 113 (by decide +kernel) rfl, by decide +kernel, by decide +kernel⟩
theorem nk192 : jNok jTs jm192 := ⟨jmem 1733 (by rfl) rfl, jmem 113 (by decide +kernel) rfl, by decide +kernel, by decide +kernel⟩
theorem nk193 : jNok jTs jm193 := ⟨jmem 1745 (by rfl) rfl, jmem 113 (by decide +kernel) rfl, by decide +kernel, by decide +kernel⟩
theorem nk194 : jNok jTs jm194 := ⟨jmem 1757 (by rfl) rfl, jmem 113 (by decide +kernel) rfl, by decide +kernel, by decide +kernel⟩
theorem nk195 : jNok jTs jm195 := ⟨jmem 1761 (by rfl) rfl, jmem 113 (by decide +kernel) rfl, by decide +kernel, by decide +kernel⟩
theorem nk196 : jNok jTs jm196 := ⟨jmem 1769 (by rfl) rfl, jmem 113 (by decide +kernel) rfl, by decide +kernel, by decide +kernel⟩
theorem nk197 : jNok jTs jm197 := ⟨jmem 1765 (by rfl) rfl, jmem 113 (by decide +kernel) rfl, by decide +kernel, by decide +kernel⟩
theorem nk198 : jNok jTs jm198 := ⟨jmem 1773 (by rfl) rfl, jmem 113 (by decide +kernel) rfl, by decide +kernel, by decide +kernel⟩
theorem nk199 : jNok jTs jm199 := ⟨jmem 1781 (by rfl) rfl, jmem 113 (by decide +kernel) rfl, by decide +kernel, by decide +kernel⟩
theorem nk200 : jNok jTs jm200 := ⟨jmem 1777 (by rfl) rfl, jmem 113 (by decide +kernel) rfl, by decide +kernel, by decide +kernel⟩
theorem nk201 : jNok jTs jm201 := ⟨jmem 1785 (by rfl) rfl, jmem 113 (by decide +kernel) rfl, by decide +kernel, by decide +kernel⟩
theorem nk202 : jNok jTs jm202 := ⟨jmem 1789 (by rfl) rfl, jmem 113 (by decide +kernel) rfl, by decide +kernel, by decide +kernel⟩
theorem nk203 : jNok jTs jm203 := ⟨jmem 1793 (by rfl) rfl, jmem 113 (by decide +kernel) rfl, by decide +kernel, by decide +kernel⟩
theorem nk204 : jNok jTs jm204 := ⟨jmem 1797 (by rfl) rfl, jmem 113 (by decide +kernel) rfl, by decide +kernel, by decide +kernel⟩
theorem nk205 : jNok jTs jm205 := ⟨jmem 1801 (by rfl) rfl, jmem 113 (by decide +kernel) rfl, by decide +kernel, by decide +kernel⟩
theorem nk206 : jNok jTs jm206 := ⟨jmem 1809 (by rfl) rfl, jmem 113 (by decide +kernel) rfl, by decide +kernel, by decide +kernel⟩
theorem nk207 : jNok jTs jm207 := ⟨jmem 1805 (by rfl) rfl, jmem 113 (by decide +kernel) rfl, by decide +kernel, by decide +kernel⟩
theorem nk208 : jNok jTs jm208 := ⟨jmem 1817 (by rfl) rfl, jmem 113 (by decide +kernel) rfl, by decide +kernel, by decide +kernel⟩
theorem nk209 : jNok jTs jm209 := ⟨jmem 1821 (by rfl) rfl, jmem 113 (by decide +kernel) rfl, by decide +kernel, by decide +kernel⟩
theorem nk210 : jNok jTs jm210 := ⟨jmem 1813 (by rfl) rfl, jmem 113 (by decide +kernel) rfl, by decide +kernel, by decide +kernel⟩
theorem nk211 : jNok jTs jm211 := ⟨jmem 1825 (by rfl) rfl, jmem 113 (by decide +kernel) rfl, by decide +kernel, by decide +kernel⟩
theorem nk212 : jNok jTs jm212 := ⟨jmem 1873 (by rfl) rfl, jmem 113 (by decide +kernel) rfl, by decide +kernel, by decide +kernel⟩
theorem nk213 : jNok jTs jm213 := ⟨jmem 1865 (by rfl) rfl, jmem 113 (by decide +kernel) rfl, by decide +kernel, by decide +kernel⟩
theorem nk214 : jNok jTs jm214 := ⟨jmem 1869 (by rfl) rfl, jmem 113 (by decide +kernel) rfl, by decide +kernel, by decide +kernel⟩
theorem nk215 : jNok jTs jm215 := ⟨jmem 1878 (by rfl) rfl, jmem 113 (by decide +kernel) rfl, by decide +kernel, by decide +kernel⟩
theorem nk216 : jNok jTs jm216 := ⟨jmem 1882 (by rfl) rfl, jmem 113 (by decide +kernel) rfl, by decide +kernel, by decide +kernel⟩
theorem nk217 : jNok jTs jm217 := ⟨jmem 1861 (by rfl) rfl, jmem 113 (by decide +kernel) rfl, by decide +kernel, by decide +kernel⟩
theorem nk218 : jNok jTs jm218 := ⟨jmem 1890 (by rfl) rfl, jmem 113 (by decide +kernel) rfl, by decide +kernel, by decide +kernel⟩
theorem nk219 : jNok jTs jm219 := ⟨jmem 1894 (by rfl) rfl, jmem 113 (by decide +kernel) rfl, by decide +kernel, by decide +kernel⟩
theorem nk220 : jNok jTs jm220 := ⟨jmem 1857 (by rfl) rfl, jmem 113 (by decide +kernel) rfl, by decide +kernel, by decide +kernel⟩
theorem nk221 : jNok jTs jm221 := ⟨jmem 1853 (by rfl) rfl, jmem 113 (by decide +kernel) rfl, by decide +kernel, by decide +kernel⟩
theorem nk222 : jNok jTs jm222 := ⟨jmem 1910 (by rfl) rfl, jmem 113 (by decide +kernel) rfl, by decide +kernel, by decide +kernel⟩
theorem nk223 : jNok jTs jm223 := ⟨jmem 1906 (by rfl) rfl, jmem 113 (by decide +kernel) rfl, by decide +kernel, by decide +kernel⟩
theorem nk224 : jNok jTs jm224 := ⟨jmem 1902 (by rfl) rfl, jmem 113 (by decide +kernel) rfl, by decide +kernel, by decide +kernel⟩
theorem nk225 : jNok jTs jm225 := ⟨jmem 1898 (by rfl) rfl, jmem 113 (by decide +kernel) rfl, by decide +kernel, by decide +kernel⟩
theorem nk226 : jNok jTs jm226 := ⟨jmem 1922 (by rfl) rfl, jmem 113 (by decide +kernel) rfl, by decide +kernel, by decide +kernel⟩
theorem nk227 : jNok jTs jm227 := ⟨jmem 1918 (by rfl) rfl, jmem 113 (by decide +kernel) rfl, by decide +kernel, by decide +kernel⟩
theorem nk228 : jNok jTs jm228 := ⟨jmem 1926 (by rfl) rfl, jmem 113 (by decide +kernel) rfl, by decide +kernel, by decide +kernel⟩
theorem nk229 : jNok jTs jm229 := ⟨jmem 1914 (by rfl) rfl, jmem 113 (by decide +kernel) rfl, by decide +kernel, by decide +kernel⟩
theorem nk230 : jNok jTs jm230 := ⟨jmem 1930 (by rfl) rfl, jmem 113 (by decide +kernel) rfl, by decide +kernel, by decide +kernel⟩
theorem nk231 : jNok jTs jm231 := ⟨jmem 1934 (by rfl) rfl, jmem 113 (by decide +kernel) rfl, by decide +kernel, by decide +kernel⟩
theorem nk232 : jNok jTs jm232 := ⟨jmem 1938 (by rfl) rfl, jmem 113 (by decide +kernel) rfl, by decide +kernel, by decide +kernel⟩
theorem nk233 : jNok jTs jm233 := ⟨jmem 1946 (by rfl) rfl, jmem 113 (by decide +kernel) rfl, by decide +kernel, by decide +kernel⟩
theorem nk234 : jNok jTs jm234 := ⟨jmem 1954 (by rfl) rfl, jmem 113 (by decide +kernel) rfl, by decide +kernel, by decide +kernel⟩
theorem nk235 : jNok jTs jm235 := ⟨jmem 1950 (by rfl) rfl, jmem 113 (by decide +kernel) rfl, by decide +kernel, by decide +kernel⟩
theorem nk236 : jNok jTs jm236 := ⟨jmem 1942 (by rfl) rfl, jmem 113 (by decide +kernel) rfl, by decide +kernel, by decide +kernel⟩
theorem nk237 : jNok jTs jm237 := ⟨jmem 1959 (by rfl) rfl, jmem 113 (by decide +kernel) rfl, by decide +kernel, by decide +kernel⟩
theorem nk238 : jNok jTs jm238 := ⟨jmem 1967 (by rfl) rfl, jmem 113 (by decide +kernel) rfl, by decide +kernel, by decide +kernel⟩
theorem nk239 : jNok jTs jm239 := ⟨jmem 1963 (by rfl) rfl, jmem 113 (by decide +kernel) rfl, by decide +kernel, by decide +kernel⟩
theorem nk240 : jNok jTs jm240 := ⟨jmem 1971 (by rfl) rfl, jmem 113 (by decide +kernel) rfl, by decide +kernel, by decide +kernel⟩
theorem nk241 : jNok jTs jm241 := ⟨jmem 1975 (by rfl) rfl, jmem 113 (by decide +kernel) rfl, by decide +kernel, by decide +kernel⟩
theorem nk242 : jNok jTs jm242 := ⟨jmem 1983 (by rfl) rfl, jmem 113 (by decide +kernel) rfl, by decide +kernel, by decide +kernel⟩
theorem nk243 : jNok jTs jm243 := ⟨jmem 1979 (by rfl) rfl, jmem 113 (by decide +kernel) rfl, by decide +kernel, by decide +kernel⟩
theorem nk244 : jNok jTs jm244 := ⟨jmem 945 (by rfl) rfl, jmem 98 (by decide +kernel) rfl, by decide +kernel, by decide +kernel⟩
theorem nk245 : jNok jTs jm245 := ⟨jmem 1029 (by rfl) rfl, jmem 98 (by decide +kernel) rfl, by decide +kernel, by decide +kernel⟩
theorem nk246 : jNok jTs jm246 := ⟨jmem 1042 (by rfl) rfl, jmem 98 (by decide +kernel) rfl, by decide +kernel, by decide +kernel⟩
theorem nk247 : jNok jTs jm247 := ⟨jmem 1059 (by rfl) rfl, jmem 98 (by decide +kernel) rfl, by decide +kernel, by decide +kernel⟩
theorem nk248 : jNok jTs jm248 := ⟨jmem 1087 (by rfl) rfl, jmem 98 (by decide +kernel) rfl, by decide +kernel, by decide +kernel⟩
theorem nk249 : jNok jTs jm249 := ⟨jmem 1095 (by rfl) rfl, jmem 98 (by decide +kernel) rfl, by decide +kernel, by decide +kernel⟩
theorem nk250 : jNok jTs jm250 := ⟨jmem 1103 (by rfl) rfl, jmem 98 (by decide +kernel) rfl, by decide +kernel, by decide +kernel⟩
theorem nk251 : jNok jTs jm251 := ⟨jmem 1140 (by rfl) rfl, jmem 98 (by decide +kernel) rfl, by decide +kernel, by decide +kernel⟩
theorem nk252 : jNok jTs jm252 := ⟨jmem 1148 (by rfl) rfl, jmem 98 (by decide +kernel) rfl, by decide +kernel, by decide +kernel⟩
theorem nk253 : jNok jTs jm253 := ⟨jmem 1166 (by rfl) rfl, jmem 98 (by decide +kernel) rfl, by decide +kernel, by decide +kernel⟩
theorem nk254 : jNok jTs jm254 := ⟨jmem 1191 (by rfl) rfl, jmem 98 (by decide +kernel) rfl, by decide +kernel, by decide +kernel⟩
theorem nk255 : jNok jTs jm255 := ⟨jmem 1206 (by rfl) rfl, jmem 98 (by decide +kernel) rfl, by decide +kernel, by decide +kernel⟩
theorem nk256 : jNok jTs jm256 := ⟨jmem 1214 (by rfl) rfl, jmem 98 (by decide +kernel) rfl, by decide +kernel, by decide +kernel⟩
theorem nk257 : jNok jTs jm257 := ⟨jmem 1222 (by rfl) rfl, jmem 98 (by decide +kernel) rfl, by decide +kernel, by decide +kernel⟩
theorem nk258 : jNok jTs jm258 := ⟨jmem 1245 (by rfl) rfl, jmem 98 (by decide +kernel) rfl, by decide +kernel, by decide +kernel⟩
theorem nk259 : jNok jTs jm259 := ⟨jmem 1256 (by rfl) rfl, jmem 98 (by decide +kernel) rfl, by decide +kernel, by decide +kernel⟩
theorem nk260 : jNok jTs jm260 := ⟨jmem 1268 (by rfl) rfl, jmem 98 (by decide +kernel) rfl, by decide +kernel, by decide +kernel⟩
theorem nk261 : jNok jTs jm261 := ⟨jmem 1282 (by rfl) rfl, jmem 98 (by decide +kernel) rfl, by decide +kernel, by decide +kernel⟩
theorem nk262 : jNok jTs jm262 := ⟨jmem 1309 (by rfl) rfl, jmem 98 (by decide +kernel) rfl, by decide +kernel, by decide +kernel⟩
theorem nk263 : jNok jTs jm263 := ⟨jmem 1317 (by rfl) rfl, jmem 98 (by decide +kernel) rfl, by decide +kernel, by decide +kernel⟩
theorem nk264 : jNok jTs jm264 := ⟨jmem 1324 (by rfl) rfl, jmem 98 (by decide +kernel) rfl, by decide +kernel, by decide +kernel⟩
theorem nk265 : jNok jTs jm265 := ⟨jmem 1332 (by rfl) rfl, jmem 98 (by decide +kernel) rfl, by decide +kernel, by decide +kernel⟩
theorem nk266 : jNok jTs jm266 := ⟨jmem 1348 (by rfl) rfl, jmem 98 (by decide +kernel) rfl, by decide +kernel, by decide +kernel⟩
theorem nk267 : jNok jTs jm267 := ⟨jmem 1356 (by rfl) rfl, jmem 98 (by decide +kernel) rfl, by decide +kernel, by decide +kernel⟩
theorem nk268 : jNok jTs jm268 := ⟨jmem 1372 (by rfl) rfl, jmem 98 (by decide +kernel) rfl, by decide +kernel, by decide +kernel⟩
