/-! the table of methods -/
abbrev jTt0 : List jM := [jm0, jm1, jm2, jm3, jm4, jm5, jm6, jm7, jm8, jm9, jm10, jm11, jm12, jm13, jm14, jm15, jm16, jm17, jm18, jm19, jm20, jm21, jm22, jm23, jm24, jm25, jm26, jm27, jm28, jm29]
abbrev jTt1 : List jM := [jm30, jm31, jm32, jm33, jm34, jm35, jm36, jm37, jm38, jm39, jm40, jm41, jm42, jm43, jm44, jm45, jm46, jm47, jm48, jm49, jm50, jm51, jm52, jm53, jm54, jm55, jm56, jm57, jm58, jm59]
abbrev jTt2 : List jM := [jm60, jm61, jm62, jm63, jm64, jm65, jm66, jm67, jm68, jm69, jm70, jm71, jm72, jm73, jm74, jm75, jm76, jm77, jm78, jm79, jm80, jm81, jm82, jm83, jm84, jm85, jm86, jm87, jm88, jm89]
abbrev jTt3 : List jM := [jm90, jm91, jm92, jm93, jm94, jm95, jm96, jm97, jm98, jm99, jm100, jm101, jm102, jm103, jm104, jm105, jm106, jm107, jm108, jm109, jm110, jm111, jm112, jm113, jm114, jm115, jm116, jm117, jm118, jm119]
abbrev jTt4 : List jM := [jm120, jm121, jm122, jm123, jm124, jm125, jm126, jm127, jm128, jm129, jm130, jm131, jm132, jm133, jm134, jm135, jm136, jm137, jm138, jm139, jm140, jm141, jm142, jm143, jm144, jm145, jm146, jm147, jm148, jm149]
abbrev jTt5 : List jM := [jm150, jm151, jm152, jm153, jm154, jm155, jm156, jm157, jm158, jm159, jm160, jm161, jm162, jm163, jm164, jm165, jm166, jm167, jm168, jm169, jm170, jm171, jm172, jm173, jm174, jm175, jm176, jm177, jm178, jm179]
abbrev jTt6 : List jM := [jm180, jm181, jm182, jm183, jm184, jm185, jm186, jm187, jm188, jm189, jm190, jm191, jm192, jm193, jm194, jm195, jm196, jm197, jm198, jm199, jm200, jm201, jm202, jm203, jm204, jm205, jm206, jm207, jm208, jm209]
abbrev jTt7 : List jM := [jm210, jm211, jm212, jm213, jm214, jm215, jm216, jm217, jm218, jm219, jm220, jm221, jm222, jm223, jm224, jm225, jm226, jm227, jm228, jm229, jm230, jm231, jm232, jm233, jm234, jm235, jm236, jm237, jm238, jm239]
abbrev jTt8 : List jM := [jm240, jm241, jm242, jm243, jm244, jm245, jm246, jm247, jm248, jm249, jm250, jm251, jm252, jm253, jm254, jm255, jm256, jm257, jm258, jm259, jm260, jm261, jm262, jm263, jm264, jm265, jm266]
abbrev jT : List jM := jTt0 ++ (jTt1 ++ (jTt2 ++ (jTt3 ++ (jTt4 ++ (jTt5 ++ (jTt6 ++ (jTt7 ++ (jTt8))))))))
set_option maxRecDepth 100000 in
theorem jT_0 : jT[0]? = some jm0 := rfl
set_option maxRecDepth 100000 in
theorem jT_1 : jT[1]? = some jm1 := rfl
set_option maxRecDepth 100000 in
theorem jT_2 : jT[2]? = some jm2 := rfl
set_option maxRecDepth 100000 in
theorem jT_3 : jT[3]? = some jm3 := rfl
set_option maxRecDepth 100000 in
theorem jT_4 : jT[4]? = some jm4 := rfl
set_option maxRecDepth 100000 in
theorem jT_5 : jT[5]? = some jm5 := rfl
set_option maxRecDepth 100000 in
theorem jT_6 : jT[6]? = some jm6 := rfl
set_option maxRecDepth 100000 in
theorem jT_7 : jT[7]? = some jm7 := rfl
set_option maxRecDepth 100000 in
theorem jT_8 : jT[8]? = some jm8 := rfl
set_option maxRecDepth 100000 in
theorem jT_9 : jT[9]? = some jm9 := rfl
set_option maxRecDepth 100000 in
theorem jT_10 : jT[10]? = some jm10 := rfl
set_option maxRecDepth 100000 in
theorem jT_11 : jT[11]? = some jm11 := rfl
set_option maxRecDepth 100000 in
theorem jT_12 : jT[12]? = some jm12 := rfl
set_option maxRecDepth 100000 in
theorem jT_13 : jT[13]? = some jm13 := rfl
set_option maxRecDepth 100000 in
theorem jT_14 : jT[14]? = some jm14 := rfl
set_option maxRecDepth 100000 in
theorem jT_15 : jT[15]? = some jm15 := rfl
set_option maxRecDepth 100000 in
theorem jT_16 : jT[16]? = some jm16 := rfl
set_option maxRecDepth 100000 in
theorem jT_17 : jT[17]? = some jm17 := rfl
set_option maxRecDepth 100000 in
theorem jT_18 : jT[18]? = some jm18 := rfl
set_option maxRecDepth 100000 in
theorem jT_19 : jT[19]? = some jm19 := rfl
set_option maxRecDepth 100000 in
theorem jT_20 : jT[20]? = some jm20 := rfl
set_option maxRecDepth 100000 in
theorem jT_21 : jT[21]? = some jm21 := rfl
set_option maxRecDepth 100000 in
theorem jT_22 : jT[22]? = some jm22 := rfl
set_option maxRecDepth 100000 in
theorem jT_23 : jT[23]? = some jm23 := rfl
set_option maxRecDepth 100000 in
theorem jT_24 : jT[24]? = some jm24 := rfl
set_option maxRecDepth 100000 in
theorem jT_25 : jT[25]? = some jm25 := rfl
set_option maxRecDepth 100000 in
theorem jT_26 : jT[26]? = some jm26 := rfl
set_option maxRecDepth 100000 in
theorem jT_27 : jT[27]? = some jm27 := rfl
set_option maxRecDepth 100000 in
theorem jT_28 : jT[28]? = some jm28 := rfl
set_option maxRecDepth 100000 in
theorem jT_29 : jT[29]? = some jm29 := rfl
set_option maxRecDepth 100000 in
theorem jT_30 : jT[30]? = some jm30 := rfl
set_option maxRecDepth 100000 in
theorem jT_31 : jT[31]? = some jm31 := rfl
set_option maxRecDepth 100000 in
theorem jT_32 : jT[32]? = some jm32 := rfl
set_option maxRecDepth 100000 in
theorem jT_33 : jT[33]? = some jm33 := rfl
set_option maxRecDepth 100000 in
theorem jT_34 : jT[34]? = some jm34 := rfl
set_option maxRecDepth 100000 in
theorem jT_35 : jT[35]? = some jm35 := rfl
set_option maxRecDepth 100000 in
theorem jT_36 : jT[36]? = some jm36 := rfl
set_option maxRecDepth 100000 in
theorem jT_37 : jT[37]? = some jm37 := rfl
set_option maxRecDepth 100000 in
theorem jT_38 : jT[38]? = some jm38 := rfl
set_option maxRecDepth 100000 in
theorem jT_39 : jT[39]? = some jm39 := rfl
set_option maxRecDepth 100000 in
theorem jT_40 : jT[40]? = some jm40 := rfl
set_option maxRecDepth 100000 in
theorem jT_41 : jT[41]? = some jm41 := rfl
set_option maxRecDepth 100000 in
theorem jT_42 : jT[42]? = some jm42 := rfl
set_option maxRecDepth 100000 in
theorem jT_43 : jT[43]? = some jm43 := rfl
set_option maxRecDepth 100000 in
theorem jT_44 : jT[44]? = some jm44 := rfl
set_option maxRecDepth 100000 in
theorem jT_45 : jT[45]? = some jm45 := rfl
set_option maxRecDepth 100000 in
theorem jT_46 : jT[46]? = some jm46 := rfl
set_option maxRecDepth 100000 in
theorem jT_47 : jT[47]? = some jm47 := rfl
set_option maxRecDepth 100000 in
theorem jT_48 : jT[48]? = some jm48 := rfl
set_option maxRecDepth 100000 in
theorem jT_49 : jT[49]? = some jm49 := rfl
set_option maxRecDepth 100000 in
theorem jT_50 : jT[50]? = some jm50 := rfl
set_option maxRecDepth 100000 in
theorem jT_51 : jT[51]? = some jm51 := rfl
set_option maxRecDepth 100000 in
theorem jT_52 : jT[52]? = some jm52 := rfl
set_option maxRecDepth 100000 in
theorem jT_53 : jT[53]? = some jm53 := rfl
set_option maxRecDepth 100000 in
theorem jT_54 : jT[54]? = some jm54 := rfl
set_option maxRecDepth 100000 in
theorem jT_55 : jT[55]? = some jm55 := rfl
set_option maxRecDepth 100000 in
theorem jT_56 : jT[56]? = some jm56 := rfl
set_option maxRecDepth 100000 in
theorem jT_57 : jT[57]? = some jm57 := rfl
set_option maxRecDepth 100000 in
theorem jT_58 : jT[58]? = some jm58 := rfl
set_option maxRecDepth 100000 in
theorem jT_59 : jT[59]? = some jm59 := rfl
set_option maxRecDepth 100000 in
theorem jT_60 : jT[60]? = some jm60 := rfl
set_option maxRecDepth 100000 in
theorem jT_61 : jT[61]? = some jm61 := rfl
set_option maxRecDepth 100000 in
theorem jT_62 : jT[62]? = some jm62 := rfl
set_option maxRecDepth 100000 in
theorem jT_63 : jT[63]? = some jm63 := rfl
set_option maxRecDepth 100000 in
theorem jT_64 : jT[64]? = some jm64 := rfl
set_option maxRecDepth 100000 in
theorem jT_65 : jT[65]? = some jm65 := rfl
set_option maxRecDepth 100000 in
theorem jT_66 : jT[66]? = some jm66 := rfl
set_option maxRecDepth 100000 in
theorem jT_67 : jT[67]? = some jm67 := rfl
set_option maxRecDepth 100000 in
theorem jT_68 : jT[68]? = some jm68 := rfl
set_option maxRecDepth 100000 in
theorem jT_69 : jT[69]? = some jm69 := rfl
set_option maxRecDepth 100000 in
theorem jT_70 : jT[70]? = some jm70 := rfl
set_option maxRecDepth 100000 in
theorem jT_71 : jT[71]? = some jm71 := rfl
set_option maxRecDepth 100000 in
theorem jT_72 : jT[72]? = some jm72 := rfl
set_option maxRecDepth 100000 in
theorem jT_73 : jT[73]? = some jm73 := rfl
set_option maxRecDepth 100000 in
theorem jT_74 : jT[74]? = some jm74 := rfl
set_option maxRecDepth 100000 in
theorem jT_75 : jT[75]? = some jm75 := rfl
set_option maxRecDepth 100000 in
theorem jT_76 : jT[76]? = some jm76 := rfl
set_option maxRecDepth 100000 in
theorem jT_77 : jT[77]? = some jm77 := rfl
set_option maxRecDepth 100000 in
theorem jT_78 : jT[78]? = some jm78 := rfl
set_option maxRecDepth 100000 in
theorem jT_79 : jT[79]? = some jm79 := rfl
set_option maxRecDepth 100000 in
theorem jT_80 : jT[80]? = some jm80 := rfl
set_option maxRecDepth 100000 in
theorem jT_81 : jT[81]? = some jm81 := rfl
set_option maxRecDepth 100000 in
theorem jT_82 : jT[82]? = some jm82 := rfl
set_option maxRecDepth 100000 in
theorem jT_83 : jT[83]? = some jm83 := rfl
set_option maxRecDepth 100000 in
theorem jT_84 : jT[84]? = some jm84 := rfl
set_option maxRecDepth 100000 in
theorem jT_85 : jT[85]? = some jm85 := rfl
set_option maxRecDepth 100000 in
theorem jT_86 : jT[86]? = some jm86 := rfl
set_option maxRecDepth 100000 in
theorem jT_87 : jT[87]? = some jm87 := rfl
set_option maxRecDepth 100000 in
theorem jT_88 : jT[88]? = some jm88 := rfl
set_option maxRecDepth 100000 in
theorem jT_89 : jT[89]? = some jm89 := rfl
set_option maxRecDepth 100000 in
theorem jT_90 : jT[90]? = some jm90 := rfl
set_option maxRecDepth 100000 in
theorem jT_91 : jT[91]? = some jm91 := rfl
set_option maxRecDepth 100000 in
theorem jT_92 : jT[92]? = some jm92 := rfl
set_option maxRecDepth 100000 in
theorem jT_93 : jT[93]? = some jm93 := rfl
set_option maxRecDepth 100000 in
theorem jT_94 : jT[94]? = some jm94 := rfl
set_option maxRecDepth 100000 in
theorem jT_95 : jT[95]? = some jm95 := rfl
set_option maxRecDepth 100000 in
theorem jT_96 : jT[96]? = some jm96 := rfl
set_option maxRecDepth 100000 in
theorem jT_97 : jT[97]? = some jm97 := rfl
set_option maxRecDepth 100000 in
theorem jT_98 : jT[98]? = some jm98 := rfl
set_option maxRecDepth 100000 in
theorem jT_99 : jT[99]? = some jm99 := rfl
set_option maxRecDepth 100000 in
theorem jT_100 : jT[100]? = some jm100 := rfl
set_option maxRecDepth 100000 in
theorem jT_101 : jT[101]? = some jm101 := rfl
set_option maxRecDepth 100000 in
theorem jT_102 : jT[102]? = some jm102 := rfl
set_option maxRecDepth 100000 in
theorem jT_103 : jT[103]? = some jm103 := rfl
set_option maxRecDepth 100000 in
theorem jT_104 : jT[104]? = some jm104 := rfl
set_option maxRecDepth 100000 in
theorem jT_105 : jT[105]? = some jm105 := rfl
set_option maxRecDepth 100000 in
theorem jT_106 : jT[106]? = some jm106 := rfl
set_option maxRecDepth 100000 in
theorem jT_107 : jT[107]? = some jm107 := rfl
set_option maxRecDepth 100000 in
theorem jT_108 : jT[108]? = some jm108 := rfl
set_option maxRecDepth 100000 in
theorem jT_109 : jT[109]? = some jm109 := rfl
set_option maxRecDepth 100000 in
theorem jT_110 : jT[110]? = some jm110 := rfl
set_option maxRecDepth 100000 in
theorem jT_111 : jT[111]? = some jm111 := rfl
set_option maxRecDepth 100000 in
theorem jT_112 : jT[112]? = some jm112 := rfl
set_option maxRecDepth 100000 in
theorem jT_113 : jT[113]? = some jm113 := rfl
set_option maxRecDepth 100000 in
theorem jT_114 : jT[114]? = some jm114 := rfl
set_option maxRecDepth 100000 in
theorem jT_115 : jT[115]? = some jm115 := rfl
set_option maxRecDepth 100000 in
theorem jT_116 : jT[116]? = some jm116 := rfl
set_option maxRecDepth 100000 in
theorem jT_117 : jT[117]? = some jm117 := rfl
set_option maxRecDepth 100000 in
theorem jT_118 : jT[118]? = some jm118 := rfl
set_option maxRecDepth 100000 in
theorem jT_119 : jT[119]? = some jm119 := rfl
set_option maxRecDepth 100000 in
theorem jT_120 : jT[120]? = some jm120 := rfl
set_option maxRecDepth 100000 in
theorem jT_121 : jT[121]? = some jm121 := rfl
set_option maxRecDepth 100000 in
theorem jT_122 : jT[122]? = some jm122 := rfl
set_option maxRecDepth 100000 in
theorem jT_123 : jT[123]? = some jm123 := rfl
set_option maxRecDepth 100000 in
theorem jT_124 : jT[124]? = some jm124 := rfl
set_option maxRecDepth 100000 in
theorem jT_125 : jT[125]? = some jm125 := rfl
set_option maxRecDepth 100000 in
theorem jT_126 : jT[126]? = some jm126 := rfl
set_option maxRecDepth 100000 in
theorem jT_127 : jT[127]? = some jm127 := rfl
set_option maxRecDepth 100000 in
theorem jT_128 : jT[128]? = some jm128 := rfl
set_option maxRecDepth 100000 in
theorem jT_129 : jT[129]? = some jm129 := rfl
set_option maxRecDepth 100000 in
theorem jT_130 : jT[130]? = some jm130 := rfl
set_option maxRecDepth 100000 in
theorem jT_131 : jT[131]? = some jm131 := rfl
set_option maxRecDepth 100000 in
theorem jT_132 : jT[132]? = some jm132 := rfl
set_option maxRecDepth 100000 in
theorem jT_133 : jT[133]? = some jm133 := rfl
set_option maxRecDepth 100000 in
theorem jT_134 : jT[134]? = some jm134 := rfl
set_option maxRecDepth 100000 in
theorem jT_135 : jT[135]? = some jm135 := rfl
set_option maxRecDepth 100000 in
theorem jT_136 : jT[136]? = some jm136 := rfl
set_option maxRecDepth 100000 in
theorem jT_137 : jT[137]? = some jm137 := rfl
set_option maxRecDepth 100000 in
theorem jT_138 : jT[138]? = some jm138 := rfl
set_option maxRecDepth 100000 in
theorem jT_139 : jT[139]? = some jm139 := rfl
set_option maxRecDepth 100000 in
theorem jT_140 : jT[140]? = some jm140 := rfl
set_option maxRecDepth 100000 in
theorem jT_141 : jT[141]? = some jm141 := rfl
set_option maxRecDepth 100000 in
theorem jT_142 : jT[142]? = some jm142 := rfl
set_option maxRecDepth 100000 in
theorem jT_143 : jT[143]? = some jm143 := rfl
set_option maxRecDepth 100000 in
theorem jT_144 : jT[144]? = some jm144 := rfl
set_option maxRecDepth 100000 in
theorem jT_145 : jT[145]? = some jm145 := rfl
set_option maxRecDepth 100000 in
theorem jT_146 : jT[146]? = some jm146 := rfl
set_option maxRecDepth 100000 in
theorem jT_147 : jT[147]? = some jm147 := rfl
set_option maxRecDepth 100000 in
theorem jT_148 : jT[148]? = some jm148 := rfl
set_option maxRecDepth 100000 in
theorem jT_149 : jT[149]? = some jm149 := rfl
set_option maxRecDepth 100000 in
theorem jT_150 : jT[150]? = some jm150 := rfl
set_option maxRecDepth 100000 in
theorem jT_151 : jT[151]? = some jm151 := rfl
set_option maxRecDepth 100000 in
theorem jT_152 : jT[152]? = some jm152 := rfl
set_option maxRecDepth 100000 in
theorem jT_153 : jT[153]? = some jm153 := rfl
set_option maxRecDepth 100000 in
theorem jT_154 : jT[154]? = some jm154 := rfl
set_option maxRecDepth 100000 in
theorem jT_155 : jT[155]? = some jm155 := rfl
set_option maxRecDepth 100000 in
theorem jT_156 : jT[156]? = some jm156 := rfl
set_option maxRecDepth 100000 in
theorem jT_157 : jT[157]? = some jm157 := rfl
set_option maxRecDepth 100000 in
theorem jT_158 : jT[158]? = some jm158 := rfl
set_option maxRecDepth 100000 in
theorem jT_159 : jT[159]? = some jm159 := rfl
set_option maxRecDepth 100000 in
theorem jT_160 : jT[160]? = some jm160 := rfl
set_option maxRecDepth 100000 in
theorem jT_161 : jT[161]? = some jm161 := rfl
set_option maxRecDepth 100000 in
theorem jT_162 : jT[162]? = some jm162 := rfl
set_option maxRecDepth 100000 in
theorem jT_163 : jT[163]? = some jm163 := rfl
set_option maxRecDepth 100000 in
theorem jT_164 : jT[164]? = some jm164 := rfl
set_option maxRecDepth 100000 in
theorem jT_165 : jT[165]? = some jm165 := rfl
set_option maxRecDepth 100000 in
theorem jT_166 : jT[166]? = some jm166 := rfl
set_option maxRecDepth 100000 in
theorem jT_167 : jT[167]? = some jm167 := rfl
set_option maxRecDepth 100000 in
theorem jT_168 : jT[168]? = some jm168 := rfl
set_option maxRecDepth 100000 in
theorem jT_169 : jT[169]? = some jm169 := rfl
set_option maxRecDepth 100000 in
theorem jT_170 : jT[170]? = some jm170 := rfl
set_option maxRecDepth 100000 in
theorem jT_171 : jT[171]? = some jm171 := rfl
set_option maxRecDepth 100000 in
theorem jT_172 : jT[172]? = some jm172 := rfl
set_option maxRecDepth 100000 in
theorem jT_173 : jT[173]? = some jm173 := rfl
set_option maxRecDepth 100000 in
theorem jT_174 : jT[174]? = some jm174 := rfl
set_option maxRecDepth 100000 in
theorem jT_175 : jT[175]? = some jm175 := rfl
set_option maxRecDepth 100000 in
theorem jT_176 : jT[176]? = some jm176 := rfl
set_option maxRecDepth 100000 in
theorem jT_177 : jT[177]? = some jm177 := rfl
set_option maxRecDepth 100000 in
theorem jT_178 : jT[178]? = some jm178 := rfl
set_option maxRecDepth 100000 in
theorem jT_179 : jT[179]? = some jm179 := rfl
set_option maxRecDepth 100000 in
theorem jT_180 : jT[180]? = some jm180 := rfl
set_option maxRecDepth 100000 in
theorem jT_181 : jT[181]? = some jm181 := rfl
set_option maxRecDepth 100000 in
theorem jT_182 : jT[182]? = some jm182 := rfl
set_option maxRecDepth 100000 in
theorem jT_183 : jT[183]? = some jm183 := rfl
set_option maxRecDepth 100000 in
theorem jT_184 : jT[184]? = some jm184 := rfl
set_option maxRecDepth 100000 in
theorem jT_185 : jT[185]? = some jm185 := rfl
set_option maxRecDepth 100000 in
theorem jT_186 : jT[186]? = some jm186 := rfl
set_option maxRecDepth 100000 in
theorem jT_187 : jT[187]? = some jm187 := rfl
set_option maxRecDepth 100000 in
theorem jT_188 : jT[188]? = some jm188 := rfl
set_option maxRecDepth 100000 in
theorem jT_189 : jT[189]? = some jm189 := rfl
set_option maxRecDepth 100000 in
theorem jT_190 : jT[190]? = some jm190 := rfl
set_option maxRecDepth 100000 in
theorem jT_191 : jT[191]? = some jm191 := rfl
set_option maxRecDepth 100000 in
theorem jT_192 : jT[192]? = some jm192 := rfl
set_option maxRecDepth 100000 in
theorem jT_193 : jT[193]? = some jm193 := rfl
set_option maxRecDepth 100000 in
theorem jT_194 : jT[194]? = some jm194 := rfl
set_option maxRecDepth 100000 in
theorem jT_195 : jT[195]? = some jm195 := rfl
set_option maxRecDepth 100000 in
theorem jT_196 : jT[196]? = some jm196 := rfl
set_option maxRecDepth 100000 in
theorem jT_197 : jT[197]? = some jm197 := rfl
set_option maxRecDepth 100000 in
theorem jT_198 : jT[198]? = some jm198 := rfl
set_option maxRecDepth 100000 in
theorem jT_199 : jT[199]? = some jm199 := rfl
set_option maxRecDepth 100000 in
theorem jT_200 : jT[200]? = some jm200 := rfl
set_option maxRecDepth 100000 in
theorem jT_201 : jT[201]? = some jm201 := rfl
set_option maxRecDepth 100000 in
theorem jT_202 : jT[202]? = some jm202 := rfl
set_option maxRecDepth 100000 in
theorem jT_203 : jT[203]? = some jm203 := rfl
set_option maxRecDepth 100000 in
theorem jT_204 : jT[204]? = some jm204 := rfl
set_option maxRecDepth 100000 in
theorem jT_205 : jT[205]? = some jm205 := rfl
set_option maxRecDepth 100000 in
theorem jT_206 : jT[206]? = some jm206 := rfl
set_option maxRecDepth 100000 in
theorem jT_207 : jT[207]? = some jm207 := rfl
set_option maxRecDepth 100000 in
theorem jT_208 : jT[208]? = some jm208 := rfl
set_option maxRecDepth 100000 in
theorem jT_209 : jT[209]? = some jm209 := rfl
set_option maxRecDepth 100000 in
theorem jT_210 : jT[210]? = some jm210 := rfl
set_option maxRecDepth 100000 in
theorem jT_211 : jT[211]? = some jm211 := rfl
set_option maxRecDepth 100000 in
theorem jT_212 : jT[212]? = some jm212 := rfl
set_option maxRecDepth 100000 in
theorem jT_213 : jT[213]? = some jm213 := rfl
set_option maxRecDepth 100000 in
theorem jT_214 : jT[214]? = some jm214 := rfl
set_option maxRecDepth 100000 in
theorem jT_215 : jT[215]? = some jm215 := rfl
set_option maxRecDepth 100000 in
theorem jT_216 : jT[216]? = some jm216 := rfl
set_option maxRecDepth 100000 in
theorem jT_217 : jT[217]? = some jm217 := rfl
set_option maxRecDepth 100000 in
theorem jT_218 : jT[218]? = some jm218 := rfl
set_option maxRecDepth 100000 in
theorem jT_219 : jT[219]? = some jm219 := rfl
set_option maxRecDepth 100000 in
theorem jT_220 : jT[220]? = some jm220 := rfl
set_option maxRecDepth 100000 in
theorem jT_221 : jT[221]? = some jm221 := rfl
set_option maxRecDepth 100000 in
theorem jT_222 : jT[222]? = some jm222 := rfl
set_option maxRecDepth 100000 in
theorem jT_223 : jT[223]? = some jm223 := rfl
set_option maxRecDepth 100000 in
theorem jT_224 : jT[224]? = some jm224 := rfl
set_option maxRecDepth 100000 in
theorem jT_225 : jT[225]? = some jm225 := rfl
set_option maxRecDepth 100000 in
theorem jT_226 : jT[226]? = some jm226 := rfl
set_option maxRecDepth 100000 in
theorem jT_227 : jT[227]? = some jm227 := rfl
set_option maxRecDepth 100000 in
theorem jT_228 : jT[228]? = some jm228 := rfl
set_option maxRecDepth 100000 in
theorem jT_229 : jT[229]? = some jm229 := rfl
set_option maxRecDepth 100000 in
theorem jT_230 : jT[230]? = some jm230 := rfl
set_option maxRecDepth 100000 in
theorem jT_231 : jT[231]? = some jm231 := rfl
set_option maxRecDepth 100000 in
theorem jT_232 : jT[232]? = some jm232 := rfl
set_option maxRecDepth 100000 in
theorem jT_233 : jT[233]? = some jm233 := rfl
set_option maxRecDepth 100000 in
theorem jT_234 : jT[234]? = some jm234 := rfl
set_option maxRecDepth 100000 in
theorem jT_235 : jT[235]? = some jm235 := rfl
set_option maxRecDepth 100000 in
theorem jT_236 : jT[236]? = some jm236 := rfl
set_option maxRecDepth 100000 in
theorem jT_237 : jT[237]? = some jm237 := rfl
set_option maxRecDepth 100000 in
theorem jT_238 : jT[238]? = some jm238 := rfl
set_option maxRecDepth 100000 in
theorem jT_239 : jT[239]? = some jm239 := rfl
set_option maxRecDepth 100000 in
theorem jT_240 : jT[240]? = some jm240 := rfl
set_option maxRecDepth 100000 in
theorem jT_241 : jT[241]? = some jm241 := rfl
set_option maxRecDepth 100000 in
theorem jT_242 : jT[242]? = some jm242 := rfl
set_option maxRecDepth 100000 in
theorem jT_243 : jT[243]? = some jm243 := rfl
set_option maxRecDepth 100000 in
theorem jT_244 : jT[244]? = some jm244 := rfl
set_option maxRecDepth 100000 in
theorem jT_245 : jT[245]? = some jm245 := rfl
set_option maxRecDepth 100000 in
theorem jT_246 : jT[246]? = some jm246 := rfl
set_option maxRecDepth 100000 in
theorem jT_247 : jT[247]? = some jm247 := rfl
set_option maxRecDepth 100000 in
theorem jT_248 : jT[248]? = some jm248 := rfl
set_option maxRecDepth 100000 in
theorem jT_249 : jT[249]? = some jm249 := rfl
set_option maxRecDepth 100000 in
theorem jT_250 : jT[250]? = some jm250 := rfl
set_option maxRecDepth 100000 in
theorem jT_251 : jT[251]? = some jm251 := rfl
set_option maxRecDepth 100000 in
theorem jT_252 : jT[252]? = some jm252 := rfl
set_option maxRecDepth 100000 in
theorem jT_253 : jT[253]? = some jm253 := rfl
set_option maxRecDepth 100000 in
theorem jT_254 : jT[254]? = some jm254 := rfl
set_option maxRecDepth 100000 in
theorem jT_255 : jT[255]? = some jm255 := rfl
set_option maxRecDepth 100000 in
theorem jT_256 : jT[256]? = some jm256 := rfl
set_option maxRecDepth 100000 in
theorem jT_257 : jT[257]? = some jm257 := rfl
set_option maxRecDepth 100000 in
theorem jT_258 : jT[258]? = some jm258 := rfl
set_option maxRecDepth 100000 in
theorem jT_259 : jT[259]? = some jm259 := rfl
set_option maxRecDepth 100000 in
theorem jT_260 : jT[260]? = some jm260 := rfl
set_option maxRecDepth 100000 in
theorem jT_261 : jT[261]? = some jm261 := rfl
set_option maxRecDepth 100000 in
theorem jT_262 : jT[262]? = some jm262 := rfl
set_option maxRecDepth 100000 in
theorem jT_263 : jT[263]? = some jm263 := rfl
set_option maxRecDepth 100000 in
theorem jT_264 : jT[264]? = some jm264 := rfl
set_option maxRecDepth 100000 in
theorem jT_265 : jT[265]? = some jm265 := rfl
set_option maxRecDepth 100000 in
theorem jT_266 : jT[266]? = some jm266 := rfl
set_option maxRecDepth 100000 in
theorem nk0 : jNok jTs jm0 := ⟨jmem 698 (by rfl) rfl, jmem 114 (by decide +kernel) rfl, by decide +kernel, by decide +kernel⟩
set_option maxRecDepth 100000 in
theorem nk1 : jNok jTs jm1 := ⟨jmem 220 (by rfl) rfl, jmem 104 (by decide +kernel) rfl, by decide +kernel, by decide +kernel⟩
set_option maxRecDepth 100000 in
theorem nk2 : jNok jTs jm2 := ⟨jmem 216 (by rfl) rfl, jmem 103 (by decide +kernel) rfl, by decide +kernel, by decide +kernel⟩
set_option maxRecDepth 100000 in
theorem nk3 : jNok jTs jm3 := ⟨jmem 838 (by rfl) rfl, jmem 103 (by decide +kernel) rfl, by decide +kernel, by decide +kernel⟩
set_option maxRecDepth 100000 in
theorem nk4 : jNok jTs jm4 := ⟨jmem 852 (by rfl) rfl, jmem 103 (by decide +kernel) rfl, by decide +kernel, by decide +kernel⟩
set_option maxRecDepth 100000 in
theorem nk5 : jNok jTs jm5 := ⟨jmem 864 (by rfl) rfl, jmem 103 (by decide +kernel) rfl, by decide +kernel, by decide +kernel⟩
set_option maxRecDepth 100000 in
theorem nk6 : jNok jTs jm6 := ⟨jmem 856 (by rfl) rfl, jmem 103 (by decide +kernel) rfl, by decide +kernel, by decide +kernel⟩
set_option maxRecDepth 100000 in
theorem nk7 : jNok jTs jm7 := ⟨jmem 860 (by rfl) rfl, jmem 103 (by decide +kernel) rfl, by decide +kernel, by decide +kernel⟩
set_option maxRecDepth 100000 in
theorem nk8 : jNok jTs jm8 := ⟨jmem 868 (by rfl) rfl, jmem 103 (by decide +kernel) rfl, by decide +kernel, by decide +kernel⟩
set_option maxRecDepth 100000 in
theorem nk9 : jNok jTs jm9 := ⟨jmem 189 (by rfl) rfl, jmem 102 (by decide +kernel) rfl, by decide +kernel, by decide +kernel⟩
set_option maxRecDepth 100000 in
theorem nk10 : jNok jTs jm10 := ⟨jmem 595 (by rfl) rfl, jmem 102 (by decide +kernel) rfl, by decide +kernel, by decide +kernel⟩
set_option maxRecDepth 100000 in
theorem nk11 : jNok jTs jm11 := ⟨jmem 599 (by rfl) rfl, jmem 102 (by decide +kernel) rfl, by decide +kernel, by decide +kernel⟩
set_option maxRecDepth 100000 in
theorem nk12 : jNok jTs jm12 := ⟨jmem 1203 (by rfl) rfl, jmem 102 (by decide +kernel) rfl, by decide +kernel, by decide +kernel⟩
set_option maxRecDepth 100000 in
theorem nk13 : jNok jTs jm13 := ⟨jmem 1239 (by rfl) rfl, jmem 102 (by decide +kernel) rfl, by decide +kernel, by decide +kernel⟩
set_option maxRecDepth 100000 in
theorem nk14 : jNok jTs jm14 := ⟨jmem 729 (by rfl) rfl, jmem 102 (by decide +kernel) rfl, by decide +kernel, by decide +kernel⟩
set_option maxRecDepth 100000 in
theorem nk15 : jNok jTs jm15 := ⟨jmem 1084 (by rfl) rfl, jmem 102 (by decide +kernel) rfl, by decide +kernel, by decide +kernel⟩
set_option maxRecDepth 100000 in
theorem nk16 : jNok jTs jm16 := ⟨jmem 1234 (by rfl) rfl, jmem 102 (by decide +kernel) rfl, by decide +kernel, by decide +kernel⟩
set_option maxRecDepth 100000 in
theorem nk17 : jNok jTs jm17 := ⟨jmem 733 (by rfl) rfl, jmem 102 (by decide +kernel) rfl, by decide +kernel, by decide +kernel⟩
set_option maxRecDepth 100000 in
theorem nk18 : jNok jTs jm18 := ⟨jmem 846 (by rfl) rfl, jmem 102 (by decide +kernel) rfl, by decide +kernel, by decide +kernel⟩
set_option maxRecDepth 100000 in
theorem nk19 : jNok jTs jm19 := ⟨jmem 480 (by rfl) rfl, jmem 111 (by decide +kernel) rfl, by decide +kernel, by decide +kernel⟩
set_option maxRecDepth 100000 in
theorem nk20 : jNok jTs jm20 := ⟨jmem 608 (by rfl) rfl, jmem 111 (by decide +kernel) rfl, by decide +kernel, by decide +kernel⟩
set_option maxRecDepth 100000 in
theorem nk21 : jNok jTs jm21 := ⟨jmem 620 (by rfl) rfl, jmem 111 (by decide +kernel) rfl, by decide +kernel, by decide +kernel⟩
set_option maxRecDepth 100000 in
theorem nk22 : jNok jTs jm22 := ⟨jmem 815 (by rfl) rfl, jmem 111 (by decide +kernel) rfl, by decide +kernel, by decide +kernel⟩
set_option maxRecDepth 100000 in
theorem nk23 : jNok jTs jm23 := ⟨jmem 819 (by rfl) rfl, jmem 111 (by decide +kernel) rfl, by decide +kernel, by decide +kernel⟩
set_option maxRecDepth 100000 in
theorem nk24 : jNok jTs jm24 := ⟨jmem 834 (by rfl) rfl, jmem 111 (by decide +kernel) rfl, by decide +kernel, by decide +kernel⟩
set_option maxRecDepth 100000 in
theorem nk25 : jNok jTs jm25 := ⟨jmem 872 (by rfl) rfl, jmem 111 (by decide +kernel) rfl, by decide +kernel, by decide +kernel⟩
set_option maxRecDepth 100000 in
theorem nk26 : jNok jTs jm26 := ⟨jmem 876 (by rfl) rfl, jmem 111 (by decide +kernel) rfl, by decide +kernel, by decide +kernel⟩
set_option maxRecDepth 100000 in
theorem nk27 : jNok jTs jm27 := ⟨jmem 882 (by rfl) rfl, jmem 111 (by decide +kernel) rfl, by decide +kernel, by decide +kernel⟩
set_option maxRecDepth 100000 in
theorem nk28 : jNok jTs jm28 := ⟨jmem 1345 (by rfl) rfl, jmem 111 (by decide +kernel) rfl, by decide +kernel, by decide +kernel⟩
set_option maxRecDepth 100000 in
theorem nk29 : jNok jTs jm29 := ⟨jmem 1341 (by rfl) rfl, jmem 111 (by decide +kernel) rfl, by decide +kernel, by decide +kernel⟩
set_option maxRecDepth 100000 in
theorem nk30 : jNok jTs jm30 := ⟨jmem 1364 (by rfl) rfl, jmem 111 (by decide +kernel) rfl, by decide +kernel, by decide +kernel⟩
set_option maxRecDepth 100000 in
theorem nk31 : jNok jTs jm31 := ⟨jmem 1369 (by rfl) rfl, jmem 111 (by decide +kernel) rfl, by decide +kernel, by decide +kernel⟩
set_option maxRecDepth 100000 in
theorem nk32 : jNok jTs jm32 := ⟨jmem 346 (by rfl) rfl, jmem 107 (by decide +kernel) rfl, by decide +kernel, by decide +kernel⟩
set_option maxRecDepth 100000 in
theorem nk33 : jNok jTs jm33 := ⟨jmem 886 (by rfl) rfl, jmem 107 (by decide +kernel) rfl, by decide +kernel, by decide +kernel⟩
set_option maxRecDepth 100000 in
theorem nk34 : jNok jTs jm34 := ⟨jmem 915 (by rfl) rfl, jmem 107 (by decide +kernel) rfl, by decide +kernel, by decide +kernel⟩
set_option maxRecDepth 100000 in
theorem nk35 : jNok jTs jm35 := ⟨jmem 896 (by rfl) rfl, jmem 107 (by decide +kernel) rfl, by decide +kernel, by decide +kernel⟩
set_option maxRecDepth 100000 in
theorem nk36 : jNok jTs jm36 := ⟨jmem 1265 (by rfl) rfl, jmem 107 (by decide +kernel) rfl, by decide +kernel, by decide +kernel⟩
set_option maxRecDepth 100000 in
theorem nk37 : jNok jTs jm37 := ⟨jmem 141 (by rfl) rfl, jmem 101 (by decide +kernel) rfl, by decide +kernel, by decide +kernel⟩
set_option maxRecDepth 100000 in
theorem nk38 : jNok jTs jm38 := ⟨jmem 953 (by rfl) rfl, jmem 101 (by decide +kernel) rfl, by decide +kernel, by decide +kernel⟩
set_option maxRecDepth 100000 in
theorem nk39 : jNok jTs jm39 := ⟨jmem 957 (by rfl) rfl, jmem 101 (by decide +kernel) rfl, by decide +kernel, by decide +kernel⟩
set_option maxRecDepth 100000 in
theorem nk40 : jNok jTs jm40 := ⟨jmem 535 (by rfl) rfl, jmem 101 (by decide +kernel) rfl, by decide +kernel, by decide +kernel⟩
set_option maxRecDepth 100000 in
theorem nk41 : jNok jTs jm41 := ⟨jmem 539 (by rfl) rfl, jmem 101 (by decide +kernel) rfl, by decide +kernel, by decide +kernel⟩
set_option maxRecDepth 100000 in
theorem nk42 : jNok jTs jm42 := ⟨jmem 543 (by rfl) rfl, jmem 101 (by decide +kernel) rfl, by decide +kernel, by decide +kernel⟩
set_option maxRecDepth 100000 in
theorem nk43 : jNok jTs jm43 := ⟨jmem 547 (by rfl) rfl, jmem 101 (by decide +kernel) rfl, by decide +kernel, by decide +kernel⟩
set_option maxRecDepth 100000 in
theorem nk44 : jNok jTs jm44 := ⟨jmem 555 (by rfl) rfl, jmem 101 (by decide +kernel) rfl, by decide +kernel, by decide +kernel⟩
set_option maxRecDepth 100000 in
theorem nk45 : jNok jTs jm45 := ⟨jmem 563 (by rfl) rfl, jmem 101 (by decide +kernel) rfl, by decide +kernel, by decide +kernel⟩
set_option maxRecDepth 100000 in
theorem nk46 : jNok jTs jm46 := ⟨jmem 568 (by rfl) rfl, jmem 101 (by decide +kernel) rfl, by decide +kernel, by decide +kernel⟩
set_option maxRecDepth 100000 in
theorem nk47 : jNok jTs jm47 := ⟨jmem 1230 (by rfl) rfl, jmem 101 (by decide +kernel) rfl, by decide +kernel, by decide +kernel⟩
set_option maxRecDepth 100000 in
theorem nk48 : jNok jTs jm48 := ⟨jmem 551 (by rfl) rfl, jmem 101 (by decide +kernel) rfl, by decide +kernel, by decide +kernel⟩
set_option maxRecDepth 100000 in
theorem nk49 : jNok jTs jm49 := ⟨jmem 559 (by rfl) rfl, jmem 101 (by decide +kernel) rfl, by decide +kernel, by decide +kernel⟩
set_option maxRecDepth 100000 in
theorem nk50 : jNok jTs jm50 := ⟨jmem 789 (by rfl) rfl, jmem 101 (by decide +kernel) rfl, by decide +kernel, by decide +kernel⟩
set_option maxRecDepth 100000 in
theorem nk51 : jNok jTs jm51 := ⟨jmem 793 (by rfl) rfl, jmem 101 (by decide +kernel) rfl, by decide +kernel, by decide +kernel⟩
set_option maxRecDepth 100000 in
theorem nk52 : jNok jTs jm52 := ⟨jmem 1051 (by rfl) rfl, jmem 101 (by decide +kernel) rfl, by decide +kernel, by decide +kernel⟩
set_option maxRecDepth 100000 in
theorem nk53 : jNok jTs jm53 := ⟨jmem 1056 (by rfl) rfl, jmem 101 (by decide +kernel) rfl, by decide +kernel, by decide +kernel⟩
set_option maxRecDepth 100000 in
theorem nk54 : jNok jTs jm54 := ⟨jmem 408 (by rfl) rfl, jmem 109 (by decide +kernel) rfl, by decide +kernel, by decide +kernel⟩
set_option maxRecDepth 100000 in
theorem nk55 : jNok jTs jm55 := ⟨jmem 921 (by rfl) rfl, jmem 109 (by decide +kernel) rfl, by decide +kernel, by decide +kernel⟩
set_option maxRecDepth 100000 in
theorem nk56 : jNok jTs jm56 := ⟨jmem 927 (by rfl) rfl, jmem 109 (by decide +kernel) rfl, by decide +kernel, by decide +kernel⟩
set_option maxRecDepth 100000 in
theorem nk57 : jNok jTs jm57 := ⟨jmem 938 (by rfl) rfl, jmem 109 (by decide +kernel) rfl, by decide +kernel, by decide +kernel⟩
set_option maxRecDepth 100000 in
theorem nk58 : jNok jTs jm58 := ⟨jmem 932 (by rfl) rfl, jmem 109 (by decide +kernel) rfl, by decide +kernel, by decide +kernel⟩
set_option maxRecDepth 100000 in
theorem nk59 : jNok jTs jm59 := ⟨jmem 942 (by rfl) rfl, jmem 109 (by decide +kernel) rfl, by decide +kernel, by decide +kernel⟩
set_option maxRecDepth 100000 in
theorem nk60 : jNok jTs jm60 := ⟨jmem 1277 (by rfl) rfl, jmem 109 (by decide +kernel) rfl, by decide +kernel, by decide +kernel⟩
set_option maxRecDepth 100000 in
theorem nk61 : jNok jTs jm61 := ⟨jmem 352 (by rfl) rfl, jmem 108 (by decide +kernel) rfl, by decide +kernel, by decide +kernel⟩
set_option maxRecDepth 100000 in
theorem nk62 : jNok jTs jm62 := ⟨jmem 890 (by rfl) rfl, jmem 108 (by decide +kernel) rfl, by decide +kernel, by decide +kernel⟩
set_option maxRecDepth 100000 in
theorem nk63 : jNok jTs jm63 := ⟨jmem 900 (by rfl) rfl, jmem 108 (by decide +kernel) rfl, by decide +kernel, by decide +kernel⟩
set_option maxRecDepth 100000 in
theorem nk64 : jNok jTs jm64 := ⟨jmem 905 (by rfl) rfl, jmem 108 (by decide +kernel) rfl, by decide +kernel, by decide +kernel⟩
set_option maxRecDepth 100000 in
theorem nk65 : jNok jTs jm65 := ⟨jmem 309 (by rfl) rfl, jmem 106 (by decide +kernel) rfl, by decide +kernel, by decide +kernel⟩
set_option maxRecDepth 100000 in
theorem nk66 : jNok jTs jm66 := ⟨jmem 822 (by rfl) rfl, jmem 106 (by decide +kernel) rfl, by decide +kernel, by decide +kernel⟩
set_option maxRecDepth 100000 in
theorem nk67 : jNok jTs jm67 := ⟨jmem 591 (by rfl) rfl, jmem 106 (by decide +kernel) rfl, by decide +kernel, by decide +kernel⟩
set_option maxRecDepth 100000 in
theorem nk68 : jNok jTs jm68 := ⟨jmem 588 (by rfl) rfl, jmem 106 (by decide +kernel) rfl, by decide +kernel, by decide +kernel⟩
set_option maxRecDepth 100000 in
theorem nk69 : jNok jTs jm69 := ⟨jmem 576 (by rfl) rfl, jmem 106 (by decide +kernel) rfl, by decide +kernel, by decide +kernel⟩
set_option maxRecDepth 100000 in
theorem nk70 : jNok jTs jm70 := ⟨jmem 572 (by rfl) rfl, jmem 106 (by decide +kernel) rfl, by decide +kernel, by decide +kernel⟩
set_option maxRecDepth 100000 in
theorem nk71 : jNok jTs jm71 := ⟨jmem 580 (by rfl) rfl, jmem 106 (by decide +kernel) rfl, by decide +kernel, by decide +kernel⟩
set_option maxRecDepth 100000 in
theorem nk72 : jNok jTs jm72 := ⟨jmem 584 (by rfl) rfl, jmem 106 (by decide +kernel) rfl, by decide +kernel, by decide +kernel⟩
set_option maxRecDepth 100000 in
theorem nk73 : jNok jTs jm73 := ⟨jmem 842 (by rfl) rfl, jmem 106 (by decide +kernel) rfl, by decide +kernel, by decide +kernel⟩
set_option maxRecDepth 100000 in
theorem nk74 : jNok jTs jm74 := ⟨jmem 756 (by rfl) rfl, jmem 106 (by decide +kernel) rfl, by decide +kernel, by decide +kernel⟩
set_option maxRecDepth 100000 in
theorem nk75 : jNok jTs jm75 := ⟨jmem 748 (by rfl) rfl, jmem 106 (by decide +kernel) rfl, by decide +kernel, by decide +kernel⟩
set_option maxRecDepth 100000 in
theorem nk76 : jNok jTs jm76 := ⟨jmem 761 (by rfl) rfl, jmem 106 (by decide +kernel) rfl, by decide +kernel, by decide +kernel⟩
set_option maxRecDepth 100000 in
theorem nk77 : jNok jTs jm77 := ⟨jmem 695 (by rfl) rfl, jmem 106 (by decide +kernel) rfl, by decide +kernel, by decide +kernel⟩
set_option maxRecDepth 100000 in
theorem nk78 : jNok jTs jm78 := ⟨jmem 741 (by rfl) rfl, jmem 106 (by decide +kernel) rfl, by decide +kernel, by decide +kernel⟩
set_option maxRecDepth 100000 in
theorem nk79 : jNok jTs jm79 := ⟨jmem 744 (by rfl) rfl, jmem 106 (by decide +kernel) rfl, by decide +kernel, by decide +kernel⟩
set_option maxRecDepth 100000 in
theorem nk80 : jNok jTs jm80 := ⟨jmem 713 (by rfl) rfl, jmem 106 (by decide +kernel) rfl, by decide +kernel, by decide +kernel⟩
set_option maxRecDepth 100000 in
theorem nk81 : jNok jTs jm81 := ⟨jmem 243 (by rfl) rfl, jmem 105 (by decide +kernel) rfl, by decide +kernel, by decide +kernel⟩
set_option maxRecDepth 100000 in
theorem nk82 : jNok jTs jm82 := ⟨jmem 1395 (by rfl) rfl, jmem 105 (by decide +kernel) rfl, by decide +kernel, by decide +kernel⟩
set_option maxRecDepth 100000 in
theorem nk83 : jNok jTs jm83 := ⟨jmem 808 (by rfl) rfl, jmem 105 (by decide +kernel) rfl, by decide +kernel, by decide +kernel⟩
set_option maxRecDepth 100000 in
theorem nk84 : jNok jTs jm84 := ⟨jmem 1399 (by rfl) rfl, jmem 105 (by decide +kernel) rfl, by decide +kernel, by decide +kernel⟩
set_option maxRecDepth 100000 in
theorem nk85 : jNok jTs jm85 := ⟨jmem 1405 (by rfl) rfl, jmem 105 (by decide +kernel) rfl, by decide +kernel, by decide +kernel⟩
set_option maxRecDepth 100000 in
theorem nk86 : jNok jTs jm86 := ⟨jmem 1409 (by rfl) rfl, jmem 105 (by decide +kernel) rfl, by decide +kernel, by decide +kernel⟩
set_option maxRecDepth 100000 in
theorem nk87 : jNok jTs jm87 := ⟨jmem 1423 (by rfl) rfl, jmem 105 (by decide +kernel) rfl, by decide +kernel, by decide +kernel⟩
set_option maxRecDepth 100000 in
theorem nk88 : jNok jTs jm88 := ⟨jmem 1419 (by rfl) rfl, jmem 105 (by decide +kernel) rfl, by decide +kernel, by decide +kernel⟩
set_option maxRecDepth 100000 in
theorem nk89 : jNok jTs jm89 := ⟨jmem 1428 (by rfl) rfl, jmem 105 (by decide +kernel) rfl, by decide +kernel, by decide +kernel⟩
set_option maxRecDepth 100000 in
theorem nk90 : jNok jTs jm90 := ⟨jmem 1413 (by rfl) rfl, jmem 105 (by decide +kernel) rfl, by decide +kernel, by decide +kernel⟩
set_option maxRecDepth 100000 in
theorem nk91 : jNok jTs jm91 := ⟨jmem 135 (by rfl) rfl, jmem 100 (by decide +kernel) rfl, by decide +kernel, by decide +kernel⟩
set_option maxRecDepth 100000 in
theorem nk92 : jNok jTs jm92 := ⟨jmem 616 (by rfl) rfl, jmem 100 (by decide +kernel) rfl, by decide +kernel, by decide +kernel⟩
set_option maxRecDepth 100000 in
theorem nk93 : jNok jTs jm93 := ⟨jmem 1380 (by rfl) rfl, jmem 100 (by decide +kernel) rfl, by decide +kernel, by decide +kernel⟩
set_option maxRecDepth 100000 in
theorem nk94 : jNok jTs jm94 := ⟨jmem 1386 (by rfl) rfl, jmem 100 (by decide +kernel) rfl, by decide +kernel, by decide +kernel⟩
set_option maxRecDepth 100000 in
theorem nk95 : jNok jTs jm95 := ⟨jmem 1391 (by rfl) rfl, jmem 100 (by decide +kernel) rfl, by decide +kernel, by decide +kernel⟩
set_option maxRecDepth 100000 in
theorem nk96 : jNok jTs jm96 := ⟨jmem 766 (by rfl) rfl, jmem 100 (by decide +kernel) rfl, by decide +kernel, by decide +kernel⟩
set_option maxRecDepth 100000 in
theorem nk97 : jNok jTs jm97 := ⟨jmem 770 (by rfl) rfl, jmem 100 (by decide +kernel) rfl, by decide +kernel, by decide +kernel⟩
set_option maxRecDepth 100000 in
theorem nk98 : jNok jTs jm98 := ⟨jmem 776 (by rfl) rfl, jmem 100 (by decide +kernel) rfl, by decide +kernel, by decide +kernel⟩
set_option maxRecDepth 100000 in
theorem nk99 : jNok jTs jm99 := ⟨jmem 804 (by rfl) rfl, jmem 100 (by decide +kernel) rfl, by decide +kernel, by decide +kernel⟩
set_option maxRecDepth 100000 in
theorem nk100 : jNok jTs jm100 := ⟨jmem 781 (by rfl) rfl, jmem 100 (by decide +kernel) rfl, by decide +kernel, by decide +kernel⟩
set_option maxRecDepth 100000 in
theorem nk101 : jNok jTs jm101 := ⟨jmem 785 (by rfl) rfl, jmem 100 (by decide +kernel) rfl, by decide +kernel, by decide +kernel⟩
set_option maxRecDepth 100000 in
theorem nk102 : jNok jTs jm102 := ⟨jmem 797 (by rfl) rfl, jmem 100 (by decide +kernel) rfl, by decide +kernel, by decide +kernel⟩
set_option maxRecDepth 100000 in
theorem nk103 : jNok jTs jm103 := ⟨jmem 443 (by rfl) rfl, jmem 110 (by decide +kernel) rfl, by decide +kernel, by decide +kernel⟩
set_option maxRecDepth 100000 in
theorem nk104 : jNok jTs jm104 := ⟨jmem 1291 (by rfl) rfl, jmem 110 (by decide +kernel) rfl, by decide +kernel, by decide +kernel⟩
set_option maxRecDepth 100000 in
theorem nk105 : jNok jTs jm105 := ⟨jmem 1303 (by rfl) rfl, jmem 110 (by decide +kernel) rfl, by decide +kernel, by decide +kernel⟩
set_option maxRecDepth 100000 in
theorem nk106 : jNok jTs jm106 := ⟨jmem 1298 (by rfl) rfl, jmem 110 (by decide +kernel) rfl, by decide +kernel, by decide +kernel⟩
set_option maxRecDepth 100000 in
theorem nk107 : jNok jTs jm107 := ⟨jmem 127 (by rfl) rfl, jmem 99 (by decide +kernel) rfl, by decide +kernel, by decide +kernel⟩
set_option maxRecDepth 100000 in
theorem nk108 : jNok jTs jm108 := ⟨jmem 950 (by rfl) rfl, jmem 99 (by decide +kernel) rfl, by decide +kernel, by decide +kernel⟩
set_option maxRecDepth 100000 in
theorem nk109 : jNok jTs jm109 := ⟨jmem 1033 (by rfl) rfl, jmem 99 (by decide +kernel) rfl, by decide +kernel, by decide +kernel⟩
set_option maxRecDepth 100000 in
theorem nk110 : jNok jTs jm110 := ⟨jmem 1046 (by rfl) rfl, jmem 99 (by decide +kernel) rfl, by decide +kernel, by decide +kernel⟩
set_option maxRecDepth 100000 in
theorem nk111 : jNok jTs jm111 := ⟨jmem 690 (by rfl) rfl, jmem 99 (by decide +kernel) rfl, by decide +kernel, by decide +kernel⟩
set_option maxRecDepth 100000 in
theorem nk112 : jNok jTs jm112 := ⟨jmem 1064 (by rfl) rfl, jmem 99 (by decide +kernel) rfl, by decide +kernel, by decide +kernel⟩
set_option maxRecDepth 100000 in
theorem nk113 : jNok jTs jm113 := ⟨jmem 1091 (by rfl) rfl, jmem 99 (by decide +kernel) rfl, by decide +kernel, by decide +kernel⟩
set_option maxRecDepth 100000 in
theorem nk114 : jNok jTs jm114 := ⟨jmem 1099 (by rfl) rfl, jmem 99 (by decide +kernel) rfl, by decide +kernel, by decide +kernel⟩
set_option maxRecDepth 100000 in
theorem nk115 : jNok jTs jm115 := ⟨jmem 1108 (by rfl) rfl, jmem 99 (by decide +kernel) rfl, by decide +kernel, by decide +kernel⟩
set_option maxRecDepth 100000 in
theorem nk116 : jNok jTs jm116 := ⟨jmem 1144 (by rfl) rfl, jmem 99 (by decide +kernel) rfl, by decide +kernel, by decide +kernel⟩
set_option maxRecDepth 100000 in
theorem nk117 : jNok jTs jm117 := ⟨jmem 1152 (by rfl) rfl, jmem 99 (by decide +kernel) rfl, by decide +kernel, by decide +kernel⟩
set_option maxRecDepth 100000 in
theorem nk118 : jNok jTs jm118 := ⟨jmem 1171 (by rfl) rfl, jmem 99 (by decide +kernel) rfl, by decide +kernel, by decide +kernel⟩
set_option maxRecDepth 100000 in
theorem nk119 : jNok jTs jm119 := ⟨jmem 1195 (by rfl) rfl, jmem 99 (by decide +kernel) rfl, by decide +kernel, by decide +kernel⟩
set_option maxRecDepth 100000 in
theorem nk120 : jNok jTs jm120 := ⟨jmem 1210 (by rfl) rfl, jmem 99 (by decide +kernel) rfl, by decide +kernel, by decide +kernel⟩
set_option maxRecDepth 100000 in
theorem nk121 : jNok jTs jm121 := ⟨jmem 1218 (by rfl) rfl, jmem 99 (by decide +kernel) rfl, by decide +kernel, by decide +kernel⟩
set_option maxRecDepth 100000 in
theorem nk122 : jNok jTs jm122 := ⟨jmem 705 (by rfl) rfl, jmem 99 (by decide +kernel) rfl, by decide +kernel, by decide +kernel⟩
set_option maxRecDepth 100000 in
theorem nk123 : jNok jTs jm123 := ⟨jmem 709 (by rfl) rfl, jmem 99 (by decide +kernel) rfl, by decide +kernel, by decide +kernel⟩
set_option maxRecDepth 100000 in
theorem nk124 : jNok jTs jm124 := ⟨jmem 1226 (by rfl) rfl, jmem 99 (by decide +kernel) rfl, by decide +kernel, by decide +kernel⟩
set_option maxRecDepth 100000 in
theorem nk125 : jNok jTs jm125 := ⟨jmem 1249 (by rfl) rfl, jmem 99 (by decide +kernel) rfl, by decide +kernel, by decide +kernel⟩
set_option maxRecDepth 100000 in
theorem nk126 : jNok jTs jm126 := ⟨jmem 1260 (by rfl) rfl, jmem 99 (by decide +kernel) rfl, by decide +kernel, by decide +kernel⟩
set_option maxRecDepth 100000 in
theorem nk127 : jNok jTs jm127 := ⟨jmem 1272 (by rfl) rfl, jmem 99 (by decide +kernel) rfl, by decide +kernel, by decide +kernel⟩
set_option maxRecDepth 100000 in
theorem nk128 : jNok jTs jm128 := ⟨jmem 1286 (by rfl) rfl, jmem 99 (by decide +kernel) rfl, by decide +kernel, by decide +kernel⟩
set_option maxRecDepth 100000 in
theorem nk129 : jNok jTs jm129 := ⟨jmem 1313 (by rfl) rfl, jmem 99 (by decide +kernel) rfl, by decide +kernel, by decide +kernel⟩
set_option maxRecDepth 100000 in
theorem nk130 : jNok jTs jm130 := ⟨jmem 1321 (by rfl) rfl, jmem 99 (by decide +kernel) rfl, by decide +kernel, by decide +kernel⟩
set_option maxRecDepth 100000 in
theorem nk131 : jNok jTs jm131 := ⟨jmem 1328 (by rfl) rfl, jmem 99 (by decide +kernel) rfl, by decide +kernel, by decide +kernel⟩
set_option maxRecDepth 100000 in
theorem nk132 : jNok jTs jm132 := ⟨jmem 1336 (by rfl) rfl, jmem 99 (by decide +kernel) rfl, by decide +kernel, by decide +kernel⟩
set_option maxRecDepth 100000 in
theorem nk133 : jNok jTs jm133 := ⟨jmem 1352 (by rfl) rfl, jmem 99 (by decide +kernel) rfl, by decide +kernel, by decide +kernel⟩
set_option maxRecDepth 100000 in
theorem nk134 : jNok jTs jm134 := ⟨jmem 1360 (by rfl) rfl, jmem 99 (by decide +kernel) rfl, by decide +kernel, by decide +kernel⟩
set_option maxRecDepth 100000 in
theorem nk135 : jNok jTs jm135 := ⟨jmem 1376 (by rfl) rfl, jmem 99 (by decide +kernel) rfl, by decide +kernel, by decide +kernel⟩
set_option maxRecDepth 100000 in
theorem nk136 : jNok jTs jm136 := ⟨jmem 717 (by rfl) rfl, jmem 99 (by decide +kernel) rfl, by decide +kernel, by decide +kernel⟩
set_option maxRecDepth 100000 in
theorem nk137 : jNok jTs jm137 := ⟨jmem 725 (by rfl) rfl, jmem 99 (by decide +kernel) rfl, by decide +kernel, by decide +kernel⟩
set_option maxRecDepth 100000 in
theorem nk138 : jNok jTs jm138 := ⟨jmem 737 (by rfl) rfl, jmem 99 (by decide +kernel) rfl, by decide +kernel, by decide +kernel⟩
set_option maxRecDepth 100000 in
theorem nk139 : jNok jTs jm139 := ⟨jmem 531 (by rfl) rfl, jmem 99 (by decide +kernel) rfl, by decide +kernel, by decide +kernel⟩
set_option maxRecDepth 100000 in
theorem nk140 : jNok jTs jm140 := ⟨jmem 612 (by rfl) rfl, jmem 99 (by decide +kernel) rfl, by decide +kernel, by decide +kernel⟩
set_option maxRecDepth 100000 in
theorem nk141 : jNok jTs jm141 := ⟨jmem 624 (by rfl) rfl, jmem 99 (by decide +kernel) rfl, by decide +kernel, by decide +kernel⟩
set_option maxRecDepth 100000 in
theorem nk142 : jNok jTs jm142 := ⟨jmem 628 (by rfl) rfl, jmem 99 (by decide +kernel) rfl, by decide +kernel, by decide +kernel⟩
set_option maxRecDepth 100000 in
theorem nk143 : jNok jTs jm143 := ⟨jmem 721 (by rfl) rfl, jmem 99 (by decide +kernel) rfl, by decide +kernel, by decide +kernel⟩
set_option maxRecDepth 100000 in
theorem nk144 : jNok jTs jm144 := ⟨jmem 1039 (by rfl) rfl, jmem 99 (by decide +kernel) rfl, by decide +kernel, by decide +kernel⟩
set_option maxRecDepth 100000 in
theorem nk145 : jNok jTs jm145 := ⟨jmem 1111 (by rfl) rfl, jmem 99 (by decide +kernel) rfl, by decide +kernel, by decide +kernel⟩
set_option maxRecDepth 100000 in
theorem nk146 : jNok jTs jm146 := ⟨jmem 811 (by rfl) rfl, jmem 99 (by decide +kernel) rfl, by decide +kernel, by decide +kernel⟩
set_option maxRecDepth 100000 in
theorem nk147 : jNok jTs jm147 := ⟨jmem 1155 (by rfl) rfl, jmem 99 (by decide +kernel) rfl, by decide +kernel, by decide +kernel⟩
set_option maxRecDepth 100000 in
theorem nk148 : jNok jTs jm148 := ⟨jmem 1198 (by rfl) rfl, jmem 99 (by decide +kernel) rfl, by decide +kernel, by decide +kernel⟩
set_option maxRecDepth 100000 in
theorem nk149 : jNok jTs jm149 := ⟨jmem 1252 (by rfl) rfl, jmem 99 (by decide +kernel) rfl, by decide +kernel, by decide +kernel⟩
set_option maxRecDepth 100000 in
theorem nk150 : jNok jTs jm150 := ⟨jmem 1116 (by rfl) rfl, jmem 99 (by decide +kernel) rfl, by decide +kernel, by decide +kernel⟩
set_option maxRecDepth 100000 in
theorem nk151 : jNok jTs jm151 := ⟨jmem 1137 (by rfl) rfl, jmem 99 (by decide +kernel) rfl, by decide +kernel, by decide +kernel⟩
set_option maxRecDepth 100000 in
theorem nk152 : jNok jTs jm152 := ⟨jmem 1159 (by rfl) rfl, jmem 99 (by decide +kernel) rfl, by decide +kernel, by decide +kernel⟩
set_option maxRecDepth 100000 in
theorem nk153 : jNok jTs jm153 := ⟨jmem 1162 (by rfl) rfl, jmem 99 (by decide +kernel) rfl, by decide +kernel, by decide +kernel⟩
set_option maxRecDepth 100000 in
theorem nk154 : jNok jTs jm154 := ⟨jmem 752 (by rfl) rfl, jmem 99 (by decide +kernel) rfl, by decide +kernel, by decide +kernel⟩
set_option maxRecDepth 100000 in
theorem nk155 : jNok jTs jm155 := ⟨jmem 1433 (by rfl) rfl, jmem 113 (by decide +kernel) rfl, by decide +kernel, by decide +kernel⟩
set_option maxRecDepth 100000 in
theorem nk156 : jNok jTs jm156 := ⟨jmem 1654 (by rfl) rfl, jmem 113 (by decide +kernel) rfl, by decide +kernel, by decide +kernel⟩
set_option maxRecDepth 100000 in
theorem nk157 : jNok jTs jm157 := ⟨jmem 1661 (by rfl) rfl, jmem 113 (by decide +kernel) rfl, by decide +kernel, by decide +kernel⟩
set_option maxRecDepth 100000 in
theorem nk158 : jNok jTs jm158 := ⟨jmem 1665 (by rfl) rfl, jmem 113 (by decide +kernel) rfl, by decide +kernel, by decide +kernel⟩
set_option maxRecDepth 100000 in
theorem nk159 : jNok jTs jm159 := ⟨jmem 1677 (by rfl) rfl, jmem 113 (by decide +kernel) rfl, by decide +kernel, by decide +kernel⟩
set_option maxRecDepth 100000 in
theorem nk160 : jNok jTs jm160 := ⟨jmem 1753 (by rfl) rfl, jmem 113 (by decide +kernel) rfl, by decide +kernel, by decide +kernel⟩
set_option maxRecDepth 100000 in
theorem nk161 : jNok jTs jm161 := ⟨jmem 1749 (by rfl) rfl, jmem 113 (by decide +kernel) rfl, by decide +kernel, by decide +kernel⟩
set_option maxRecDepth 100000 in
theorem nk162 : jNok jTs jm162 := ⟨jmem 1443 (by rfl) rfl, jmem 113 (by decide +kernel) rfl, by decide +kernel, by decide +kernel⟩
set_option maxRecDepth 100000 in
theorem nk163 : jNok jTs jm163 := ⟨jmem 1439 (by rfl) rfl, jmem 113 (by decide +kernel) rfl, by decide +kernel, by decide +kernel⟩
set_option maxRecDepth 100000 in
theorem nk164 : jNok jTs jm164 := ⟨jmem 1447 (by rfl) rfl, jmem 113 (by decide +kernel) rfl, by decide +kernel, by decide +kernel⟩
set_option maxRecDepth 100000 in
theorem nk165 : jNok jTs jm165 := ⟨jmem 1673 (by rfl) rfl, jmem 113 (by decide +kernel) rfl, by decide +kernel, by decide +kernel⟩
set_option maxRecDepth 100000 in
theorem nk166 : jNok jTs jm166 := ⟨jmem 1720 (by rfl) rfl, jmem 113 (by decide +kernel) rfl, by decide +kernel, by decide +kernel⟩
set_option maxRecDepth 100000 in
theorem nk167 : jNok jTs jm167 := ⟨jmem 1658 (by rfl) rfl, jmem 113 (by decide +kernel) rfl, by decide +kernel, by decide +kernel⟩
set_option maxRecDepth 100000 in
theorem nk168 : jNok jTs jm168 := ⟨jmem 1669 (by rfl) rfl, jmem 113 (by decide +kernel) rfl, by decide +kernel, by decide +kernel⟩
set_option maxRecDepth 100000 in
theorem nk169 : jNok jTs jm169 := ⟨jmem 1741 (by rfl) rfl, jmem 113 (by decide +kernel) rfl, by decide +kernel, by decide +kernel⟩
set_option maxRecDepth 100000 in
theorem nk170 : jNok jTs jm170 := ⟨jmem 1737 (by rfl) rfl, jmem 113 (by decide +kernel) rfl, by decide +kernel, by decide +kernel⟩
set_option maxRecDepth 100000 in
theorem nk171 : jNok jTs jm171 := ⟨jmem 1712 (by rfl) rfl, jmem 113 (by decide +kernel) rfl, by decide +kernel, by decide +kernel⟩
set_option maxRecDepth 100000 in
theorem nk172 : jNok jTs jm172 := ⟨jmem 1716 (by rfl) rfl, jmem 113 (by decide +kernel) rfl, by decide +kernel, by decide +kernel⟩
set_option maxRecDepth 100000 in
theorem nk173 : jNok jTs jm173 := ⟨jmem 1833 (by rfl) rfl, jmem 113 (by decide +kernel) rfl, by decide +kernel, by decide +kernel⟩
set_option maxRecDepth 100000 in
theorem nk174 : jNok jTs jm174 := ⟨jmem 1837 (by rfl) rfl, jmem 113 (by decide +kernel) rfl, by decide +kernel, by decide +kernel⟩
set_option maxRecDepth 100000 in
theorem nk175 : jNok jTs jm175 := ⟨jmem 1845 (by rfl) rfl, jmem 113 (by decide +kernel) rfl, by decide +kernel, by decide +kernel⟩
set_option maxRecDepth 100000 in
theorem nk176 : jNok jTs jm176 := ⟨jmem 1841 (by rfl) rfl, jmem 113 (by decide +kernel) rfl, by decide +kernel, by decide +kernel⟩
set_option maxRecDepth 100000 in
theorem nk177 : jNok jTs jm177 := ⟨jmem 1829 (by rfl) rfl, jmem 113 (by decide +kernel) rfl, by decide +kernel, by decide +kernel⟩
set_option maxRecDepth 100000 in
theorem nk178 : jNok jTs jm178 := ⟨jmem 1849 (by rfl) rfl, jmem 113 (by decide +kernel) rfl, by decide +kernel, by decide +kernel⟩
set_option maxRecDepth 100000 in
theorem nk179 : jNok jTs jm179 := ⟨jmem 1692 (by rfl) rfl, jmem 113 (by decide +kernel) rfl, by decide +kernel, by decide +kernel⟩
set_option maxRecDepth 100000 in
theorem nk180 : jNok jTs jm180 := ⟨jmem 1704 (by rfl) rfl, jmem 113 (by decide +kernel) rfl, by decide +kernel, by decide +kernel⟩
set_option maxRecDepth 100000 in
theorem nk181 : jNok jTs jm181 := ⟨jmem 1700 (by rfl) rfl, jmem 113 (by decide +kernel) rfl, by decide +kernel, by decide +kernel⟩
set_option maxRecDepth 100000 in
theorem nk182 : jNok jTs jm182 := ⟨jmem 1696 (by rfl) rfl, jmem 113 (by decide +kernel) rfl, by decide +kernel, by decide +kernel⟩
set_option maxRecDepth 100000 in
theorem nk183 : jNok jTs jm183 := ⟨jmem 1688 (by rfl) rfl, jmem 113 (by decide +kernel) rfl, by decide +kernel, by decide +kernel⟩
set_option maxRecDepth 100000 in
theorem nk184 : jNok jTs jm184 := ⟨jmem 1684 (by rfl) rfl, jmem 113 (by decide +kernel) rfl, by decide +kernel, by decide +kernel⟩
set_option maxRecDepth 100000 in
theorem nk185 : jNok jTs jm185 := ⟨jmem 1681 (by rfl) rfl, jmem 113 (by decide +kernel) rfl, by decide +kernel, by decide +kernel⟩
set_option maxRecDepth 100000 in
theorem nk186 : jNok jTs jm186 := ⟨jmem 1886 (by rfl) rfl, jmem 113 (by decide +kernel) rfl, by decide +kernel, by decide +kernel⟩
set_option maxRecDepth 100000 in
theorem nk187 : jNok jTs jm187 := ⟨jmem 1729 (by rfl) rfl, jmem 113 (by decide +kernel) rfl, by decide +kernel, by decide +kernel⟩
set_option maxRecDepth 100000 in
theorem nk188 : jNok jTs jm188 := ⟨jmem 1708 (by rfl) rfl, jmem 113 (by decide +kernel) rfl, by decide +kernel, by decide +kernel⟩
set_option maxRecDepth 100000 in
theorem nk189 : jNok jTs jm189 := ⟨jmem 1724 (by rfl) rfl, jmem 113 (by decide +kernel) rfl, by decide +kernel, by decide +kernel⟩
set_option maxRecDepth 100000 in
theorem nk190 : jNok jTs jm190 := ⟨jmem 1733 (by rfl) rfl, jmem 113 (by decide +kernel) rfl, by decide +kernel, by decide +kernel⟩
set_option maxRecDepth 100000 in
theorem nk191 : jNok jTs jm191 := ⟨jmem 1745 (by rfl) rfl, jmem 113 (by decide +kernel) rfl, by decide +kernel, by decide +kernel⟩
set_option maxRecDepth 100000 in
theorem nk192 : jNok jTs jm192 := ⟨jmem 1757 (by rfl) rfl, jmem 113 (by decide +kernel) rfl, by decide +kernel, by decide +kernel⟩
set_option maxRecDepth 100000 in
theorem nk193 : jNok jTs jm193 := ⟨jmem 1761 (by rfl) rfl, jmem 113 (by decide +kernel) rfl, by decide +kernel, by decide +kernel⟩
set_option maxRecDepth 100000 in
theorem nk194 : jNok jTs jm194 := ⟨jmem 1769 (by rfl) rfl, jmem 113 (by decide +kernel) rfl, by decide +kernel, by decide +kernel⟩
set_option maxRecDepth 100000 in
theorem nk195 : jNok jTs jm195 := ⟨jmem 1765 (by rfl) rfl, jmem 113 (by decide +kernel) rfl, by decide +kernel, by decide +kernel⟩
set_option maxRecDepth 100000 in
theorem nk196 : jNok jTs jm196 := ⟨jmem 1773 (by rfl) rfl, jmem 113 (by decide +kernel) rfl, by decide +kernel, by decide +kernel⟩
set_option maxRecDepth 100000 in
theorem nk197 : jNok jTs jm197 := ⟨jmem 1781 (by rfl) rfl, jmem 113 (by decide +kernel) rfl, by decide +kernel, by decide +kernel⟩
set_option maxRecDepth 100000 in
theorem nk198 : jNok jTs jm198 := ⟨jmem 1777 (by rfl) rfl, jmem 113 (by decide +kernel) rfl, by decide +kernel, by decide +kernel⟩
set_option maxRecDepth 100000 in
theorem nk199 : jNok jTs jm199 := ⟨jmem 1785 (by rfl) rfl, jmem 113 (by decide +kernel) rfl, by decide +kernel, by decide +kernel⟩
set_option maxRecDepth 100000 in
theorem nk200 : jNok jTs jm200 := ⟨jmem 1789 (by rfl) rfl, jmem 113 (by decide +kernel) rfl, by decide +kernel, by decide +kernel⟩
set_option maxRecDepth 100000 in
theorem nk201 : jNok jTs jm201 := ⟨jmem 1793 (by rfl) rfl, jmem 113 (by decide +kernel) rfl, by decide +kernel, by decide +kernel⟩
set_option maxRecDepth 100000 in
theorem nk202 : jNok jTs jm202 := ⟨jmem 1797 (by rfl) rfl, jmem 113 (by decide +kernel) rfl, by decide +kernel, by decide +kernel⟩
set_option maxRecDepth 100000 in
theorem nk203 : jNok jTs jm203 := ⟨jmem 1801 (by rfl) rfl, jmem 113 (by decide +kernel) rfl, by decide +kernel, by decide +kernel⟩
set_option maxRecDepth 100000 in
theorem nk204 : jNok jTs jm204 := ⟨jmem 1809 (by rfl) rfl, jmem 113 (by decide +kernel) rfl, by decide +kernel, by decide +kernel⟩
set_option maxRecDepth 100000 in
theorem nk205 : jNok jTs jm205 := ⟨jmem 1805 (by rfl) rfl, jmem 113 (by decide +kernel) rfl, by decide +kernel, by decide +kernel⟩
set_option maxRecDepth 100000 in
theorem nk206 : jNok jTs jm206 := ⟨jmem 1817 (by rfl) rfl, jmem 113 (by decide +kernel) rfl, by decide +kernel, by decide +kernel⟩
set_option maxRecDepth 100000 in
theorem nk207 : jNok jTs jm207 := ⟨jmem 1821 (by rfl) rfl, jmem 113 (by decide +kernel) rfl, by decide +kernel, by decide +kernel⟩
set_option maxRecDepth 100000 in
theorem nk208 : jNok jTs jm208 := ⟨jmem 1813 (by rfl) rfl, jmem 113 (by decide +kernel) rfl, by decide +kernel, by decide +kernel⟩
set_option maxRecDepth 100000 in
theorem nk209 : jNok jTs jm209 := ⟨jmem 1825 (by rfl) rfl, jmem 113 (by decide +kernel) rfl, by decide +kernel, by decide +kernel⟩
set_option maxRecDepth 100000 in
theorem nk210 : jNok jTs jm210 := ⟨jmem 1873 (by rfl) rfl, jmem 113 (by decide +kernel) rfl, by decide +kernel, by decide +kernel⟩
set_option maxRecDepth 100000 in
theorem nk211 : jNok jTs jm211 := ⟨jmem 1865 (by rfl) rfl, jmem 113 (by decide +kernel) rfl, by decide +kernel, by decide +kernel⟩
set_option maxRecDepth 100000 in
theorem nk212 : jNok jTs jm212 := ⟨jmem 1869 (by rfl) rfl, jmem 113 (by decide +kernel) rfl, by decide +kernel, by decide +kernel⟩
set_option maxRecDepth 100000 in
theorem nk213 : jNok jTs jm213 := ⟨jmem 1878 (by rfl) rfl, jmem 113 (by decide +kernel) rfl, by decide +kernel, by decide +kernel⟩
set_option maxRecDepth 100000 in
theorem nk214 : jNok jTs jm214 := ⟨jmem 1882 (by rfl) rfl, jmem 113 (by decide +kernel) rfl, by decide +kernel, by decide +kernel⟩
set_option maxRecDepth 100000 in
theorem nk215 : jNok jTs jm215 := ⟨jmem 1861 (by rfl) rfl, jmem 113 (by decide +kernel) rfl, by decide +kernel, by decide +kernel⟩
set_option maxRecDepth 100000 in
theorem nk216 : jNok jTs jm216 := ⟨jmem 1890 (by rfl) rfl, jmem 113 (by decide +kernel) rfl, by decide +kernel, by decide +kernel⟩
set_option maxRecDepth 100000 in
theorem nk217 : jNok jTs jm217 := ⟨jmem 1894 (by rfl) rfl, jmem 113 (by decide +kernel) rfl, by decide +kernel, by decide +kernel⟩
set_option maxRecDepth 100000 in
theorem nk218 : jNok jTs jm218 := ⟨jmem 1857 (by rfl) rfl, jmem 113 (by decide +kernel) rfl, by decide +kernel, by decide +kernel⟩
set_option maxRecDepth 100000 in
theorem nk219 : jNok jTs jm219 := ⟨jmem 1853 (by rfl) rfl, jmem 113 (by decide +kernel) rfl, by decide +kernel, by decide +kernel⟩
set_option maxRecDepth 100000 in
theorem nk220 : jNok jTs jm220 := ⟨jmem 1910 (by rfl) rfl, jmem 113 (by decide +kernel) rfl, by decide +kernel, by decide +kernel⟩
set_option maxRecDepth 100000 in
theorem nk221 : jNok jTs jm221 := ⟨jmem 1906 (by rfl) rfl, jmem 113 (by decide +kernel) rfl, by decide +kernel, by decide +kernel⟩
set_option maxRecDepth 100000 in
theorem nk222 : jNok jTs jm222 := ⟨jmem 1902 (by rfl) rfl, jmem 113 (by decide +kernel) rfl, by decide +kernel, by decide +kernel⟩
set_option maxRecDepth 100000 in
theorem nk223 : jNok jTs jm223 := ⟨jmem 1898 (by rfl) rfl, jmem 113 (by decide +kernel) rfl, by decide +kernel, by decide +kernel⟩
set_option maxRecDepth 100000 in
theorem nk224 : jNok jTs jm224 := ⟨jmem 1922 (by rfl) rfl, jmem 113 (by decide +kernel) rfl, by decide +kernel, by decide +kernel⟩
set_option maxRecDepth 100000 in
theorem nk225 : jNok jTs jm225 := ⟨jmem 1918 (by rfl) rfl, jmem 113 (by decide +kernel) rfl, by decide +kernel, by decide +kernel⟩
set_option maxRecDepth 100000 in
theorem nk226 : jNok jTs jm226 := ⟨jmem 1926 (by rfl) rfl, jmem 113 (by decide +kernel) rfl, by decide +kernel, by decide +kernel⟩
set_option maxRecDepth 100000 in
theorem nk227 : jNok jTs jm227 := ⟨jmem 1914 (by rfl) rfl, jmem 113 (by decide +kernel) rfl, by decide +kernel, by decide +kernel⟩
set_option maxRecDepth 100000 in
theorem nk228 : jNok jTs jm228 := ⟨jmem 1930 (by rfl) rfl, jmem 113 (by decide +kernel) rfl, by decide +kernel, by decide +kernel⟩
set_option maxRecDepth 100000 in
theorem nk229 : jNok jTs jm229 := ⟨jmem 1934 (by rfl) rfl, jmem 113 (by decide +kernel) rfl, by decide +kernel, by decide +kernel⟩
set_option maxRecDepth 100000 in
theorem nk230 : jNok jTs jm230 := ⟨jmem 1938 (by rfl) rfl, jmem 113 (by decide +kernel) rfl, by decide +kernel, by decide +kernel⟩
set_option maxRecDepth 100000 in
theorem nk231 : jNok jTs jm231 := ⟨jmem 1946 (by rfl) rfl, jmem 113 (by decide +kernel) rfl, by decide +kernel, by decide +kernel⟩
set_option maxRecDepth 100000 in
theorem nk232 : jNok jTs jm232 := ⟨jmem 1954 (by rfl) rfl, jmem 113 (by decide +kernel) rfl, by decide +kernel, by decide +kernel⟩
set_option maxRecDepth 100000 in
theorem nk233 : jNok jTs jm233 := ⟨jmem 1950 (by rfl) rfl, jmem 113 (by decide +kernel) rfl, by decide +kernel, by decide +kernel⟩
set_option maxRecDepth 100000 in
theorem nk234 : jNok jTs jm234 := ⟨jmem 1942 (by rfl) rfl, jmem 113 (by decide +kernel) rfl, by decide +kernel, by decide +kernel⟩
set_option maxRecDepth 100000 in
theorem nk235 : jNok jTs jm235 := ⟨jmem 1959 (by rfl) rfl, jmem 113 (by decide +kernel) rfl, by decide +kernel, by decide +kernel⟩
set_option maxRecDepth 100000 in
theorem nk236 : jNok jTs jm236 := ⟨jmem 1967 (by rfl) rfl, jmem 113 (by decide +kernel) rfl, by decide +kernel, by decide +kernel⟩
set_option maxRecDepth 100000 in
theorem nk237 : jNok jTs jm237 := ⟨jmem 1963 (by rfl) rfl, jmem 113 (by decide +kernel) rfl, by decide +kernel, by decide +kernel⟩
set_option maxRecDepth 100000 in
theorem nk238 : jNok jTs jm238 := ⟨jmem 1971 (by rfl) rfl, jmem 113 (by decide +kernel) rfl, by decide +kernel, by decide +kernel⟩
set_option maxRecDepth 100000 in
theorem nk239 : jNok jTs jm239 := ⟨jmem 1975 (by rfl) rfl, jmem 113 (by decide +kernel) rfl, by decide +kernel, by decide +kernel⟩
set_option maxRecDepth 100000 in
theorem nk240 : jNok jTs jm240 := ⟨jmem 1983 (by rfl) rfl, jmem 113 (by decide +kernel) rfl, by decide +kernel, by decide +kernel⟩
set_option maxRecDepth 100000 in
theorem nk241 : jNok jTs jm241 := ⟨jmem 1979 (by rfl) rfl, jmem 113 (by decide +kernel) rfl, by decide +kernel, by decide +kernel⟩
set_option maxRecDepth 100000 in
theorem nk242 : jNok jTs jm242 := ⟨jmem 945 (by rfl) rfl, jmem 98 (by decide +kernel) rfl, by decide +kernel, by decide +kernel⟩
set_option maxRecDepth 100000 in
theorem nk243 : jNok jTs jm243 := ⟨jmem 1029 (by rfl) rfl, jmem 98 (by decide +kernel) rfl, by decide +kernel, by decide +kernel⟩
set_option maxRecDepth 100000 in
theorem nk244 : jNok jTs jm244 := ⟨jmem 1042 (by rfl) rfl, jmem 98 (by decide +kernel) rfl, by decide +kernel, by decide +kernel⟩
set_option maxRecDepth 100000 in
theorem nk245 : jNok jTs jm245 := ⟨jmem 1059 (by rfl) rfl, jmem 98 (by decide +kernel) rfl, by decide +kernel, by decide +kernel⟩
set_option maxRecDepth 100000 in
theorem nk246 : jNok jTs jm246 := ⟨jmem 1087 (by rfl) rfl, jmem 98 (by decide +kernel) rfl, by decide +kernel, by decide +kernel⟩
set_option maxRecDepth 100000 in
theorem nk247 : jNok jTs jm247 := ⟨jmem 1095 (by rfl) rfl, jmem 98 (by decide +kernel) rfl, by decide +kernel, by decide +kernel⟩
set_option maxRecDepth 100000 in
theorem nk248 : jNok jTs jm248 := ⟨jmem 1103 (by rfl) rfl, jmem 98 (by decide +kernel) rfl, by decide +kernel, by decide +kernel⟩
set_option maxRecDepth 100000 in
theorem nk249 : jNok jTs jm249 := ⟨jmem 1140 (by rfl) rfl, jmem 98 (by decide +kernel) rfl, by decide +kernel, by decide +kernel⟩
set_option maxRecDepth 100000 in
theorem nk250 : jNok jTs jm250 := ⟨jmem 1148 (by rfl) rfl, jmem 98 (by decide +kernel) rfl, by decide +kernel, by decide +kernel⟩
set_option maxRecDepth 100000 in
theorem nk251 : jNok jTs jm251 := ⟨jmem 1166 (by rfl) rfl, jmem 98 (by decide +kernel) rfl, by decide +kernel, by decide +kernel⟩
set_option maxRecDepth 100000 in
theorem nk252 : jNok jTs jm252 := ⟨jmem 1191 (by rfl) rfl, jmem 98 (by decide +kernel) rfl, by decide +kernel, by decide +kernel⟩
set_option maxRecDepth 100000 in
theorem nk253 : jNok jTs jm253 := ⟨jmem 1206 (by rfl) rfl, jmem 98 (by decide +kernel) rfl, by decide +kernel, by decide +kernel⟩
set_option maxRecDepth 100000 in
theorem nk254 : jNok jTs jm254 := ⟨jmem 1214 (by rfl) rfl, jmem 98 (by decide +kernel) rfl, by decide +kernel, by decide +kernel⟩
set_option maxRecDepth 100000 in
theorem nk255 : jNok jTs jm255 := ⟨jmem 1222 (by rfl) rfl, jmem 98 (by decide +kernel) rfl, by decide +kernel, by decide +kernel⟩
set_option maxRecDepth 100000 in
theorem nk256 : jNok jTs jm256 := ⟨jmem 1245 (by rfl) rfl, jmem 98 (by decide +kernel) rfl, by decide +kernel, by decide +kernel⟩
set_option maxRecDepth 100000 in
theorem nk257 : jNok jTs jm257 := ⟨jmem 1256 (by rfl) rfl, jmem 98 (by decide +kernel) rfl, by decide +kernel, by decide +kernel⟩
set_option maxRecDepth 100000 in
theorem nk258 : jNok jTs jm258 := ⟨jmem 1268 (by rfl) rfl, jmem 98 (by decide +kernel) rfl, by decide +kernel, by decide +kernel⟩
set_option maxRecDepth 100000 in
theorem nk259 : jNok jTs jm259 := ⟨jmem 1282 (by rfl) rfl, jmem 98 (by decide +kernel) rfl, by decide +kernel, by decide +kernel⟩
set_option maxRecDepth 100000 in
theorem nk260 : jNok jTs jm260 := ⟨jmem 1309 (by rfl) rfl, jmem 98 (by decide +kernel) rfl, by decide +kernel, by decide +kernel⟩
set_option maxRecDepth 100000 in
theorem nk261 : jNok jTs jm261 := ⟨jmem 1317 (by rfl) rfl, jmem 98 (by decide +kernel) rfl, by decide +kernel, by decide +kernel⟩
set_option maxRecDepth 100000 in
theorem nk262 : jNok jTs jm262 := ⟨jmem 1324 (by rfl) rfl, jmem 98 (by decide +kernel) rfl, by decide +kernel, by decide +kernel⟩
set_option maxRecDepth 100000 in
theorem nk263 : jNok jTs jm263 := ⟨jmem 1332 (by rfl) rfl, jmem 98 (by decide +kernel) rfl, by decide +kernel, by decide +kernel⟩
set_option maxRecDepth 100000 in
theorem nk264 : jNok jTs jm264 := ⟨jmem 1348 (by rfl) rfl, jmem 98 (by decide +kernel) rfl, by decide +kernel, by decide +kernel⟩
set_option maxRecDepth 100000 in
theorem nk265 : jNok jTs jm265 := ⟨jmem 1356 (by rfl) rfl, jmem 98 (by decide +kernel) rfl, by decide +kernel, by decide +kernel⟩
set_option maxRecDepth 100000 in
theorem nk266 : jNok jTs jm266 := ⟨jmem 1372 (by rfl) rfl, jmem 98 (by decide +kernel) rfl, by decide +kernel, by decide +kernel⟩
theorem np0 : jpar jm0 1 := by unfold jpar; decide +kernel
theorem np1 : jpar jm1 2 := by unfold jpar; decide +kernel
theorem np2 : jpar jm2 1 := by unfold jpar; decide +kernel
theorem np3 : jpar jm3 0 := by unfold jpar; decide +kernel
theorem np4 : jpar jm4 3 := by unfold jpar; decide +kernel
theorem np5 : jpar jm5 0 := by unfold jpar; decide +kernel
theorem np6 : jpar jm6 2 := by unfold jpar; decide +kernel
theorem np7 : jpar jm7 2 := by unfold jpar; decide +kernel
theorem np8 : jpar jm8 1 := by unfold jpar; decide +kernel
theorem np9 : jpar jm9 0 := by unfold jpar; decide +kernel
theorem np10 : jpar jm10 1 := by unfold jpar; decide +kernel
theorem np11 : jpar jm11 1 := by unfold jpar; decide +kernel
theorem np12 : jpar jm12 1 := by unfold jpar; decide +kernel
theorem np13 : jpar jm13 1 := by unfold jpar; decide +kernel
theorem np14 : jpar jm14 1 := by unfold jpar; decide +kernel
theorem np15 : jpar jm15 2 := by unfold jpar; decide +kernel
theorem np16 : jpar jm16 0 := by unfold jpar; decide +kernel
theorem np17 : jpar jm17 2 := by unfold jpar; decide +kernel
theorem np18 : jpar jm18 1 := by unfold jpar; decide +kernel
theorem np19 : jpar jm19 0 := by unfold jpar; decide +kernel
theorem np20 : jpar jm20 0 := by unfold jpar; decide +kernel
theorem np21 : jpar jm21 0 := by unfold jpar; decide +kernel
theorem np22 : jpar jm22 1 := by unfold jpar; decide +kernel
theorem np23 : jpar jm23 1 := by unfold jpar; decide +kernel
theorem np24 : jpar jm24 1 := by unfold jpar; decide +kernel
theorem np25 : jpar jm25 1 := by unfold jpar; decide +kernel
theorem np26 : jpar jm26 2 := by unfold jpar; decide +kernel
theorem np27 : jpar jm27 1 := by unfold jpar; decide +kernel
theorem np28 : jpar jm28 1 := by unfold jpar; decide +kernel
theorem np29 : jpar jm29 2 := by unfold jpar; decide +kernel
theorem np30 : jpar jm30 2 := by unfold jpar; decide +kernel
theorem np31 : jpar jm31 2 := by unfold jpar; decide +kernel
theorem np32 : jpar jm32 0 := by unfold jpar; decide +kernel
theorem np33 : jpar jm33 4 := by unfold jpar; decide +kernel
theorem np34 : jpar jm34 3 := by unfold jpar; decide +kernel
theorem np35 : jpar jm35 5 := by unfold jpar; decide +kernel
theorem np36 : jpar jm36 1 := by unfold jpar; decide +kernel
theorem np37 : jpar jm37 0 := by unfold jpar; decide +kernel
theorem np38 : jpar jm38 3 := by unfold jpar; decide +kernel
theorem np39 : jpar jm39 3 := by unfold jpar; decide +kernel
theorem np40 : jpar jm40 3 := by unfold jpar; decide +kernel
theorem np41 : jpar jm41 0 := by unfold jpar; decide +kernel
theorem np42 : jpar jm42 2 := by unfold jpar; decide +kernel
theorem np43 : jpar jm43 0 := by unfold jpar; decide +kernel
theorem np44 : jpar jm44 2 := by unfold jpar; decide +kernel
theorem np45 : jpar jm45 0 := by unfold jpar; decide +kernel
theorem np46 : jpar jm46 4 := by unfold jpar; decide +kernel
theorem np47 : jpar jm47 0 := by unfold jpar; decide +kernel
theorem np48 : jpar jm48 2 := by unfold jpar; decide +kernel
theorem np49 : jpar jm49 2 := by unfold jpar; decide +kernel
theorem np50 : jpar jm50 2 := by unfold jpar; decide +kernel
theorem np51 : jpar jm51 2 := by unfold jpar; decide +kernel
theorem np52 : jpar jm52 1 := by unfold jpar; decide +kernel
theorem np53 : jpar jm53 2 := by unfold jpar; decide +kernel
theorem np54 : jpar jm54 0 := by unfold jpar; decide +kernel
theorem np55 : jpar jm55 4 := by unfold jpar; decide +kernel
theorem np56 : jpar jm56 4 := by unfold jpar; decide +kernel
theorem np57 : jpar jm57 2 := by unfold jpar; decide +kernel
theorem np58 : jpar jm58 1 := by unfold jpar; decide +kernel
theorem np59 : jpar jm59 2 := by unfold jpar; decide +kernel
theorem np60 : jpar jm60 1 := by unfold jpar; decide +kernel
theorem np61 : jpar jm61 2 := by unfold jpar; decide +kernel
theorem np62 : jpar jm62 0 := by unfold jpar; decide +kernel
theorem np63 : jpar jm63 1 := by unfold jpar; decide +kernel
theorem np64 : jpar jm64 2 := by unfold jpar; decide +kernel
theorem np65 : jpar jm65 0 := by unfold jpar; decide +kernel
theorem np66 : jpar jm66 1 := by unfold jpar; decide +kernel
theorem np67 : jpar jm67 1 := by unfold jpar; decide +kernel
theorem np68 : jpar jm68 1 := by unfold jpar; decide +kernel
theorem np69 : jpar jm69 1 := by unfold jpar; decide +kernel
theorem np70 : jpar jm70 1 := by unfold jpar; decide +kernel
theorem np71 : jpar jm71 2 := by unfold jpar; decide +kernel
theorem np72 : jpar jm72 0 := by unfold jpar; decide +kernel
theorem np73 : jpar jm73 2 := by unfold jpar; decide +kernel
theorem np74 : jpar jm74 1 := by unfold jpar; decide +kernel
theorem np75 : jpar jm75 1 := by unfold jpar; decide +kernel
theorem np76 : jpar jm76 2 := by unfold jpar; decide +kernel
theorem np77 : jpar jm77 0 := by unfold jpar; decide +kernel
theorem np78 : jpar jm78 2 := by unfold jpar; decide +kernel
theorem np79 : jpar jm79 2 := by unfold jpar; decide +kernel
theorem np80 : jpar jm80 0 := by unfold jpar; decide +kernel
theorem np81 : jpar jm81 0 := by unfold jpar; decide +kernel
theorem np82 : jpar jm82 2 := by unfold jpar; decide +kernel
theorem np83 : jpar jm83 1 := by unfold jpar; decide +kernel
theorem np84 : jpar jm84 3 := by unfold jpar; decide +kernel
theorem np85 : jpar jm85 2 := by unfold jpar; decide +kernel
theorem np86 : jpar jm86 1 := by unfold jpar; decide +kernel
theorem np87 : jpar jm87 1 := by unfold jpar; decide +kernel
theorem np88 : jpar jm88 4 := by unfold jpar; decide +kernel
theorem np89 : jpar jm89 1 := by unfold jpar; decide +kernel
theorem np90 : jpar jm90 3 := by unfold jpar; decide +kernel
theorem np91 : jpar jm91 0 := by unfold jpar; decide +kernel
theorem np92 : jpar jm92 0 := by unfold jpar; decide +kernel
theorem np93 : jpar jm93 0 := by unfold jpar; decide +kernel
theorem np94 : jpar jm94 1 := by unfold jpar; decide +kernel
theorem np95 : jpar jm95 1 := by unfold jpar; decide +kernel
theorem np96 : jpar jm96 2 := by unfold jpar; decide +kernel
theorem np97 : jpar jm97 1 := by unfold jpar; decide +kernel
theorem np98 : jpar jm98 1 := by unfold jpar; decide +kernel
theorem np99 : jpar jm99 1 := by unfold jpar; decide +kernel
theorem np100 : jpar jm100 1 := by unfold jpar; decide +kernel
theorem np101 : jpar jm101 2 := by unfold jpar; decide +kernel
theorem np102 : jpar jm102 1 := by unfold jpar; decide +kernel
theorem np103 : jpar jm103 0 := by unfold jpar; decide +kernel
theorem np104 : jpar jm104 3 := by unfold jpar; decide +kernel
theorem np105 : jpar jm105 3 := by unfold jpar; decide +kernel
theorem np106 : jpar jm106 2 := by unfold jpar; decide +kernel
theorem np107 : jpar jm107 0 := by unfold jpar; decide +kernel
theorem np108 : jpar jm108 3 := by unfold jpar; decide +kernel
theorem np109 : jpar jm109 1 := by unfold jpar; decide +kernel
theorem np110 : jpar jm110 2 := by unfold jpar; decide +kernel
theorem np111 : jpar jm111 0 := by unfold jpar; decide +kernel
theorem np112 : jpar jm112 2 := by unfold jpar; decide +kernel
theorem np113 : jpar jm113 2 := by unfold jpar; decide +kernel
theorem np114 : jpar jm114 1 := by unfold jpar; decide +kernel
theorem np115 : jpar jm115 2 := by unfold jpar; decide +kernel
theorem np116 : jpar jm116 1 := by unfold jpar; decide +kernel
theorem np117 : jpar jm117 2 := by unfold jpar; decide +kernel
theorem np118 : jpar jm118 2 := by unfold jpar; decide +kernel
theorem np119 : jpar jm119 1 := by unfold jpar; decide +kernel
theorem np120 : jpar jm120 1 := by unfold jpar; decide +kernel
theorem np121 : jpar jm121 1 := by unfold jpar; decide +kernel
theorem np122 : jpar jm122 0 := by unfold jpar; decide +kernel
theorem np123 : jpar jm123 0 := by unfold jpar; decide +kernel
theorem np124 : jpar jm124 0 := by unfold jpar; decide +kernel
theorem np125 : jpar jm125 1 := by unfold jpar; decide +kernel
theorem np126 : jpar jm126 1 := by unfold jpar; decide +kernel
theorem np127 : jpar jm127 1 := by unfold jpar; decide +kernel
theorem np128 : jpar jm128 0 := by unfold jpar; decide +kernel
theorem np129 : jpar jm129 1 := by unfold jpar; decide +kernel
theorem np130 : jpar jm130 1 := by unfold jpar; decide +kernel
theorem np131 : jpar jm131 0 := by unfold jpar; decide +kernel
theorem np132 : jpar jm132 1 := by unfold jpar; decide +kernel
theorem np133 : jpar jm133 1 := by unfold jpar; decide +kernel
theorem np134 : jpar jm134 1 := by unfold jpar; decide +kernel
theorem np135 : jpar jm135 1 := by unfold jpar; decide +kernel
theorem np136 : jpar jm136 0 := by unfold jpar; decide +kernel
theorem np137 : jpar jm137 0 := by unfold jpar; decide +kernel
theorem np138 : jpar jm138 0 := by unfold jpar; decide +kernel
theorem np139 : jpar jm139 3 := by unfold jpar; decide +kernel
theorem np140 : jpar jm140 0 := by unfold jpar; decide +kernel
theorem np141 : jpar jm141 0 := by unfold jpar; decide +kernel
theorem np142 : jpar jm142 3 := by unfold jpar; decide +kernel
theorem np143 : jpar jm143 0 := by unfold jpar; decide +kernel
theorem np144 : jpar jm144 0 := by unfold jpar; decide +kernel
theorem np145 : jpar jm145 1 := by unfold jpar; decide +kernel
theorem np146 : jpar jm146 1 := by unfold jpar; decide +kernel
theorem np147 : jpar jm147 1 := by unfold jpar; decide +kernel
theorem np148 : jpar jm148 1 := by unfold jpar; decide +kernel
theorem np149 : jpar jm149 1 := by unfold jpar; decide +kernel
theorem np150 : jpar jm150 2 := by unfold jpar; decide +kernel
theorem np151 : jpar jm151 1 := by unfold jpar; decide +kernel
theorem np152 : jpar jm152 2 := by unfold jpar; decide +kernel
theorem np153 : jpar jm153 1 := by unfold jpar; decide +kernel
theorem np154 : jpar jm154 1 := by unfold jpar; decide +kernel
theorem np155 : jpar jm155 0 := by unfold jpar; decide +kernel
theorem np156 : jpar jm156 0 := by unfold jpar; decide +kernel
theorem np157 : jpar jm157 3 := by unfold jpar; decide +kernel
theorem np158 : jpar jm158 1 := by unfold jpar; decide +kernel
theorem np159 : jpar jm159 1 := by unfold jpar; decide +kernel
theorem np160 : jpar jm160 1 := by unfold jpar; decide +kernel
theorem np161 : jpar jm161 1 := by unfold jpar; decide +kernel
theorem np162 : jpar jm162 2 := by unfold jpar; decide +kernel
theorem np163 : jpar jm163 0 := by unfold jpar; decide +kernel
theorem np164 : jpar jm164 1 := by unfold jpar; decide +kernel
theorem np165 : jpar jm165 0 := by unfold jpar; decide +kernel
theorem np166 : jpar jm166 1 := by unfold jpar; decide +kernel
theorem np167 : jpar jm167 3 := by unfold jpar; decide +kernel
theorem np168 : jpar jm168 3 := by unfold jpar; decide +kernel
theorem np169 : jpar jm169 1 := by unfold jpar; decide +kernel
theorem np170 : jpar jm170 1 := by unfold jpar; decide +kernel
theorem np171 : jpar jm171 0 := by unfold jpar; decide +kernel
theorem np172 : jpar jm172 2 := by unfold jpar; decide +kernel
theorem np173 : jpar jm173 1 := by unfold jpar; decide +kernel
theorem np174 : jpar jm174 1 := by unfold jpar; decide +kernel
theorem np175 : jpar jm175 3 := by unfold jpar; decide +kernel
theorem np176 : jpar jm176 1 := by unfold jpar; decide +kernel
theorem np177 : jpar jm177 2 := by unfold jpar; decide +kernel
theorem np178 : jpar jm178 1 := by unfold jpar; decide +kernel
theorem np179 : jpar jm179 2 := by unfold jpar; decide +kernel
theorem np180 : jpar jm180 1 := by unfold jpar; decide +kernel
theorem np181 : jpar jm181 2 := by unfold jpar; decide +kernel
theorem np182 : jpar jm182 1 := by unfold jpar; decide +kernel
theorem np183 : jpar jm183 1 := by unfold jpar; decide +kernel
theorem np184 : jpar jm184 1 := by unfold jpar; decide +kernel
theorem np185 : jpar jm185 1 := by unfold jpar; decide +kernel
theorem np186 : jpar jm186 1 := by unfold jpar; decide +kernel
theorem np187 : jpar jm187 2 := by unfold jpar; decide +kernel
theorem np188 : jpar jm188 1 := by unfold jpar; decide +kernel
theorem np189 : jpar jm189 2 := by unfold jpar; decide +kernel
theorem np190 : jpar jm190 0 := by unfold jpar; decide +kernel
theorem np191 : jpar jm191 2 := by unfold jpar; decide +kernel
theorem np192 : jpar jm192 2 := by unfold jpar; decide +kernel
theorem np193 : jpar jm193 1 := by unfold jpar; decide +kernel
theorem np194 : jpar jm194 1 := by unfold jpar; decide +kernel
theorem np195 : jpar jm195 2 := by unfold jpar; decide +kernel
theorem np196 : jpar jm196 1 := by unfold jpar; decide +kernel
theorem np197 : jpar jm197 1 := by unfold jpar; decide +kernel
theorem np198 : jpar jm198 2 := by unfold jpar; decide +kernel
theorem np199 : jpar jm199 2 := by unfold jpar; decide +kernel
theorem np200 : jpar jm200 1 := by unfold jpar; decide +kernel
theorem np201 : jpar jm201 1 := by unfold jpar; decide +kernel
theorem np202 : jpar jm202 1 := by unfold jpar; decide +kernel
theorem np203 : jpar jm203 0 := by unfold jpar; decide +kernel
theorem np204 : jpar jm204 1 := by unfold jpar; decide +kernel
theorem np205 : jpar jm205 0 := by unfold jpar; decide +kernel
theorem np206 : jpar jm206 0 := by unfold jpar; decide +kernel
theorem np207 : jpar jm207 0 := by unfold jpar; decide +kernel
theorem np208 : jpar jm208 0 := by unfold jpar; decide +kernel
theorem np209 : jpar jm209 1 := by unfold jpar; decide +kernel
theorem np210 : jpar jm210 1 := by unfold jpar; decide +kernel
theorem np211 : jpar jm211 0 := by unfold jpar; decide +kernel
theorem np212 : jpar jm212 4 := by unfold jpar; decide +kernel
theorem np213 : jpar jm213 2 := by unfold jpar; decide +kernel
theorem np214 : jpar jm214 1 := by unfold jpar; decide +kernel
theorem np215 : jpar jm215 2 := by unfold jpar; decide +kernel
theorem np216 : jpar jm216 1 := by unfold jpar; decide +kernel
theorem np217 : jpar jm217 0 := by unfold jpar; decide +kernel
theorem np218 : jpar jm218 0 := by unfold jpar; decide +kernel
theorem np219 : jpar jm219 1 := by unfold jpar; decide +kernel
theorem np220 : jpar jm220 1 := by unfold jpar; decide +kernel
theorem np221 : jpar jm221 0 := by unfold jpar; decide +kernel
theorem np222 : jpar jm222 1 := by unfold jpar; decide +kernel
theorem np223 : jpar jm223 1 := by unfold jpar; decide +kernel
theorem np224 : jpar jm224 2 := by unfold jpar; decide +kernel
theorem np225 : jpar jm225 2 := by unfold jpar; decide +kernel
theorem np226 : jpar jm226 1 := by unfold jpar; decide +kernel
theorem np227 : jpar jm227 0 := by unfold jpar; decide +kernel
theorem np228 : jpar jm228 1 := by unfold jpar; decide +kernel
theorem np229 : jpar jm229 1 := by unfold jpar; decide +kernel
theorem np230 : jpar jm230 0 := by unfold jpar; decide +kernel
theorem np231 : jpar jm231 0 := by unfold jpar; decide +kernel
theorem np232 : jpar jm232 0 := by unfold jpar; decide +kernel
theorem np233 : jpar jm233 0 := by unfold jpar; decide +kernel
theorem np234 : jpar jm234 1 := by unfold jpar; decide +kernel
theorem np235 : jpar jm235 1 := by unfold jpar; decide +kernel
theorem np236 : jpar jm236 1 := by unfold jpar; decide +kernel
theorem np237 : jpar jm237 1 := by unfold jpar; decide +kernel
theorem np238 : jpar jm238 0 := by unfold jpar; decide +kernel
theorem np239 : jpar jm239 0 := by unfold jpar; decide +kernel
theorem np240 : jpar jm240 0 := by unfold jpar; decide +kernel
theorem np241 : jpar jm241 0 := by unfold jpar; decide +kernel
theorem np242 : jpar jm242 5 := by unfold jpar; decide +kernel
theorem np243 : jpar jm243 3 := by unfold jpar; decide +kernel
theorem np244 : jpar jm244 4 := by unfold jpar; decide +kernel
theorem np245 : jpar jm245 4 := by unfold jpar; decide +kernel
theorem np246 : jpar jm246 4 := by unfold jpar; decide +kernel
theorem np247 : jpar jm247 3 := by unfold jpar; decide +kernel
theorem np248 : jpar jm248 4 := by unfold jpar; decide +kernel
theorem np249 : jpar jm249 3 := by unfold jpar; decide +kernel
theorem np250 : jpar jm250 4 := by unfold jpar; decide +kernel
theorem np251 : jpar jm251 4 := by unfold jpar; decide +kernel
theorem np252 : jpar jm252 3 := by unfold jpar; decide +kernel
theorem np253 : jpar jm253 3 := by unfold jpar; decide +kernel
theorem np254 : jpar jm254 3 := by unfold jpar; decide +kernel
theorem np255 : jpar jm255 2 := by unfold jpar; decide +kernel
theorem np256 : jpar jm256 3 := by unfold jpar; decide +kernel
theorem np257 : jpar jm257 3 := by unfold jpar; decide +kernel
theorem np258 : jpar jm258 3 := by unfold jpar; decide +kernel
theorem np259 : jpar jm259 2 := by unfold jpar; decide +kernel
theorem np260 : jpar jm260 3 := by unfold jpar; decide +kernel
theorem np261 : jpar jm261 3 := by unfold jpar; decide +kernel
theorem np262 : jpar jm262 2 := by unfold jpar; decide +kernel
theorem np263 : jpar jm263 3 := by unfold jpar; decide +kernel
theorem np264 : jpar jm264 3 := by unfold jpar; decide +kernel
theorem np265 : jpar jm265 3 := by unfold jpar; decide +kernel
theorem np266 : jpar jm266 3 := by unfold jpar; decide +kernel
