/-! ===== every method that is called by what is known of it ===== -/
theorem pS_nil : ∀ I ∈ ([] : List sIn), sInOk pPT I := fun I h => by cases h
theorem pS_cons {a : sIn} {l : List sIn} (h : sInOk pPT a) (t : ∀ I ∈ l, sInOk pPT I) : ∀ I ∈ a :: l, sInOk pPT I := fun I hI => by
  rcases List.mem_cons.mp hI with rfl | hI
  · exact h
  · exact t I hI
theorem pU_nil {P : sCu → Prop} : ∀ u ∈ ([] : List sCu), P u := fun u h => by cases h
theorem pU_cons {P : sCu → Prop} {a : sCu} {l : List sCu} (h : P a) (t : ∀ u ∈ l, P u) : ∀ u ∈ a :: l, P u := fun u hu => by
  rcases List.mem_cons.mp hu with rfl | hu
  · exact h
  · exact t u hu
theorem pU_app {P : sCu → Prop} {a l : List sCu} (h : ∀ u ∈ a, P u) (t : ∀ u ∈ l, P u) : ∀ u ∈ a ++ l, P u := fun u hu => by
  rcases List.mem_append.mp hu with hu | hu
  · exact h u hu
  · exact t u hu
theorem pV_nil {l : List sCu} : ∀ v ∈ ([] : List sCu), v ∈ l := fun v h => by cases h
theorem pV_cons {a : sCu} {k l : List sCu} (h : a ∈ l) (t : ∀ v ∈ k, v ∈ l) : ∀ v ∈ a :: k, v ∈ l := fun v hv => by
  rcases List.mem_cons.mp hv with rfl | hv
  · exact h
  · exact t v hv
set_option maxRecDepth 100000 in
theorem pg_1 : pPT[1]? = some pm_1 := rfl
set_option maxRecDepth 100000 in
theorem pg_3 : pPT[3]? = some pm_3 := rfl
set_option maxRecDepth 100000 in
theorem pg_4 : pPT[4]? = some pm_4 := rfl
set_option maxRecDepth 100000 in
theorem pg_6 : pPT[6]? = some pm_6 := rfl
set_option maxRecDepth 100000 in
theorem pg_7 : pPT[7]? = some pm_7 := rfl
set_option maxRecDepth 100000 in
theorem pg_8 : pPT[8]? = some pm_8 := rfl
set_option maxRecDepth 100000 in
theorem pg_9 : pPT[9]? = some pm_9 := rfl
set_option maxRecDepth 100000 in
theorem pg_10 : pPT[10]? = some pm_10 := rfl
set_option maxRecDepth 100000 in
theorem pg_11 : pPT[11]? = some pm_11 := rfl
set_option maxRecDepth 100000 in
theorem pg_12 : pPT[12]? = some pm_12 := rfl
set_option maxRecDepth 100000 in
theorem pg_13 : pPT[13]? = some pm_13 := rfl
set_option maxRecDepth 100000 in
theorem pg_15 : pPT[15]? = some pm_15 := rfl
set_option maxRecDepth 100000 in
theorem pg_17 : pPT[17]? = some pm_17 := rfl
set_option maxRecDepth 100000 in
theorem pg_19 : pPT[19]? = some pm_19 := rfl
set_option maxRecDepth 100000 in
theorem pg_21 : pPT[21]? = some pm_21 := rfl
set_option maxRecDepth 100000 in
theorem pg_22 : pPT[22]? = some pm_22 := rfl
set_option maxRecDepth 100000 in
theorem pg_23 : pPT[23]? = some pm_23 := rfl
set_option maxRecDepth 100000 in
theorem pg_28 : pPT[28]? = some pm_28 := rfl
set_option maxRecDepth 100000 in
theorem pg_29 : pPT[29]? = some pm_29 := rfl
set_option maxRecDepth 100000 in
theorem pg_30 : pPT[30]? = some pm_30 := rfl
set_option maxRecDepth 100000 in
theorem pg_31 : pPT[31]? = some pm_31 := rfl
set_option maxRecDepth 100000 in
theorem pg_32 : pPT[32]? = some pm_32 := rfl
set_option maxRecDepth 100000 in
theorem pg_36 : pPT[36]? = some pm_36 := rfl
set_option maxRecDepth 100000 in
theorem pg_37 : pPT[37]? = some pm_37 := rfl
set_option maxRecDepth 100000 in
theorem pg_38 : pPT[38]? = some pm_38 := rfl
set_option maxRecDepth 100000 in
theorem pg_41 : pPT[41]? = some pm_41 := rfl
set_option maxRecDepth 100000 in
theorem pg_43 : pPT[43]? = some pm_43 := rfl
set_option maxRecDepth 100000 in
theorem pg_44 : pPT[44]? = some pm_44 := rfl
set_option maxRecDepth 100000 in
theorem pg_47 : pPT[47]? = some pm_47 := rfl
set_option maxRecDepth 100000 in
theorem pg_51 : pPT[51]? = some pm_51 := rfl
set_option maxRecDepth 100000 in
theorem pg_52 : pPT[52]? = some pm_52 := rfl
set_option maxRecDepth 100000 in
theorem pg_53 : pPT[53]? = some pm_53 := rfl
set_option maxRecDepth 100000 in
theorem pg_54 : pPT[54]? = some pm_54 := rfl
set_option maxRecDepth 100000 in
theorem pg_55 : pPT[55]? = some pm_55 := rfl
set_option maxRecDepth 100000 in
theorem pg_58 : pPT[58]? = some pm_58 := rfl
set_option maxRecDepth 100000 in
theorem pg_60 : pPT[60]? = some pm_60 := rfl
set_option maxRecDepth 100000 in
theorem pg_67 : pPT[67]? = some pm_67 := rfl
set_option maxRecDepth 100000 in
theorem pg_72 : pPT[72]? = some pm_72 := rfl
set_option maxRecDepth 100000 in
theorem pg_73 : pPT[73]? = some pm_73 := rfl
set_option maxRecDepth 100000 in
theorem pg_74 : pPT[74]? = some pm_74 := rfl
set_option maxRecDepth 100000 in
theorem pg_76 : pPT[76]? = some pm_76 := rfl
set_option maxRecDepth 100000 in
theorem pg_77 : pPT[77]? = some pm_77 := rfl
set_option maxRecDepth 100000 in
theorem pg_78 : pPT[78]? = some pm_78 := rfl
set_option maxRecDepth 100000 in
theorem pg_79 : pPT[79]? = some pm_79 := rfl
set_option maxRecDepth 100000 in
theorem pg_80 : pPT[80]? = some pm_80 := rfl
set_option maxRecDepth 100000 in
theorem pg_81 : pPT[81]? = some pm_81 := rfl
set_option maxRecDepth 100000 in
theorem pg_82 : pPT[82]? = some pm_82 := rfl
set_option maxRecDepth 100000 in
theorem pg_84 : pPT[84]? = some pm_84 := rfl
set_option maxRecDepth 100000 in
theorem pg_85 : pPT[85]? = some pm_85 := rfl
set_option maxRecDepth 100000 in
theorem pg_90 : pPT[90]? = some pm_90 := rfl
set_option maxRecDepth 100000 in
theorem pg_91 : pPT[91]? = some pm_91 := rfl
set_option maxRecDepth 100000 in
theorem pg_92 : pPT[92]? = some pm_92 := rfl
set_option maxRecDepth 100000 in
theorem pg_93 : pPT[93]? = some pm_93 := rfl
set_option maxRecDepth 100000 in
theorem pg_94 : pPT[94]? = some pm_94 := rfl
set_option maxRecDepth 100000 in
theorem pg_95 : pPT[95]? = some pm_95 := rfl
set_option maxRecDepth 100000 in
theorem pg_96 : pPT[96]? = some pm_96 := rfl
set_option maxRecDepth 100000 in
theorem pg_97 : pPT[97]? = some pm_97 := rfl
set_option maxRecDepth 100000 in
theorem pg_98 : pPT[98]? = some pm_98 := rfl
set_option maxRecDepth 100000 in
theorem pg_102 : pPT[102]? = some pm_102 := rfl
set_option maxRecDepth 100000 in
theorem pg_103 : pPT[103]? = some pm_103 := rfl
set_option maxRecDepth 100000 in
theorem pg_104 : pPT[104]? = some pm_104 := rfl
set_option maxRecDepth 100000 in
theorem pg_105 : pPT[105]? = some pm_105 := rfl
set_option maxRecDepth 100000 in
theorem pg_106 : pPT[106]? = some pm_106 := rfl
set_option maxRecDepth 100000 in
theorem pg_107 : pPT[107]? = some pm_107 := rfl
set_option maxRecDepth 100000 in
theorem pg_108 : pPT[108]? = some pm_108 := rfl
set_option maxRecDepth 100000 in
theorem pg_109 : pPT[109]? = some pm_109 := rfl
set_option maxRecDepth 100000 in
theorem pg_110 : pPT[110]? = some pm_110 := rfl
set_option maxRecDepth 100000 in
theorem pg_111 : pPT[111]? = some pm_111 := rfl
set_option maxRecDepth 100000 in
theorem pg_113 : pPT[113]? = some pm_113 := rfl
set_option maxRecDepth 100000 in
theorem pg_114 : pPT[114]? = some pm_114 := rfl
set_option maxRecDepth 100000 in
theorem pg_115 : pPT[115]? = some pm_115 := rfl
set_option maxRecDepth 100000 in
theorem pg_116 : pPT[116]? = some pm_116 := rfl
set_option maxRecDepth 100000 in
theorem pg_117 : pPT[117]? = some pm_117 := rfl
set_option maxRecDepth 100000 in
theorem pg_119 : pPT[119]? = some pm_119 := rfl
set_option maxRecDepth 100000 in
theorem pg_123 : pPT[123]? = some pm_123 := rfl
set_option maxRecDepth 100000 in
theorem pg_124 : pPT[124]? = some pm_124 := rfl
set_option maxRecDepth 100000 in
theorem pg_125 : pPT[125]? = some pm_125 := rfl
set_option maxRecDepth 100000 in
theorem pg_126 : pPT[126]? = some pm_126 := rfl
set_option maxRecDepth 100000 in
theorem pg_127 : pPT[127]? = some pm_127 := rfl
set_option maxRecDepth 100000 in
theorem pg_129 : pPT[129]? = some pm_129 := rfl
set_option maxRecDepth 100000 in
theorem pg_131 : pPT[131]? = some pm_131 := rfl
set_option maxRecDepth 100000 in
theorem pg_132 : pPT[132]? = some pm_132 := rfl
set_option maxRecDepth 100000 in
theorem pg_134 : pPT[134]? = some pm_134 := rfl
set_option maxRecDepth 100000 in
theorem pg_135 : pPT[135]? = some pm_135 := rfl
set_option maxRecDepth 100000 in
theorem pg_136 : pPT[136]? = some pm_136 := rfl
set_option maxRecDepth 100000 in
theorem pg_138 : pPT[138]? = some pm_138 := rfl
set_option maxRecDepth 100000 in
theorem pg_140 : pPT[140]? = some pm_140 := rfl
set_option maxRecDepth 100000 in
theorem pg_141 : pPT[141]? = some pm_141 := rfl
set_option maxRecDepth 100000 in
theorem pg_142 : pPT[142]? = some pm_142 := rfl
set_option maxRecDepth 100000 in
theorem pg_143 : pPT[143]? = some pm_143 := rfl
set_option maxRecDepth 100000 in
theorem pg_144 : pPT[144]? = some pm_144 := rfl
set_option maxRecDepth 100000 in
theorem pg_145 : pPT[145]? = some pm_145 := rfl
set_option maxRecDepth 100000 in
theorem pg_146 : pPT[146]? = some pm_146 := rfl
set_option maxRecDepth 100000 in
theorem pg_147 : pPT[147]? = some pm_147 := rfl
set_option maxRecDepth 100000 in
theorem pg_148 : pPT[148]? = some pm_148 := rfl
set_option maxRecDepth 100000 in
theorem pg_149 : pPT[149]? = some pm_149 := rfl
set_option maxRecDepth 100000 in
theorem pg_151 : pPT[151]? = some pm_151 := rfl
set_option maxRecDepth 100000 in
theorem pg_152 : pPT[152]? = some pm_152 := rfl
set_option maxRecDepth 100000 in
theorem pg_157 : pPT[157]? = some pm_157 := rfl
set_option maxRecDepth 100000 in
theorem pg_158 : pPT[158]? = some pm_158 := rfl
set_option maxRecDepth 100000 in
theorem pg_160 : pPT[160]? = some pm_160 := rfl
set_option maxRecDepth 100000 in
theorem pg_161 : pPT[161]? = some pm_161 := rfl
set_option maxRecDepth 100000 in
theorem pg_162 : pPT[162]? = some pm_162 := rfl
set_option maxRecDepth 100000 in
theorem pg_166 : pPT[166]? = some pm_166 := rfl
set_option maxRecDepth 100000 in
theorem pg_168 : pPT[168]? = some pm_168 := rfl
set_option maxRecDepth 100000 in
theorem pg_170 : pPT[170]? = some pm_170 := rfl
set_option maxRecDepth 100000 in
theorem pg_171 : pPT[171]? = some pm_171 := rfl
set_option maxRecDepth 100000 in
theorem pg_172 : pPT[172]? = some pm_172 := rfl
set_option maxRecDepth 100000 in
theorem pg_173 : pPT[173]? = some pm_173 := rfl
set_option maxRecDepth 100000 in
theorem pg_174 : pPT[174]? = some pm_174 := rfl
set_option maxRecDepth 100000 in
theorem pg_175 : pPT[175]? = some pm_175 := rfl
set_option maxRecDepth 100000 in
theorem pg_176 : pPT[176]? = some pm_176 := rfl
set_option maxRecDepth 100000 in
theorem pg_177 : pPT[177]? = some pm_177 := rfl
set_option maxRecDepth 100000 in
theorem pg_178 : pPT[178]? = some pm_178 := rfl
set_option maxRecDepth 100000 in
theorem pg_179 : pPT[179]? = some pm_179 := rfl
set_option maxRecDepth 100000 in
theorem pg_180 : pPT[180]? = some pm_180 := rfl
set_option maxRecDepth 100000 in
theorem pg_181 : pPT[181]? = some pm_181 := rfl
set_option maxRecDepth 100000 in
theorem pg_182 : pPT[182]? = some pm_182 := rfl
set_option maxRecDepth 100000 in
theorem pg_183 : pPT[183]? = some pm_183 := rfl
set_option maxRecDepth 100000 in
theorem pg_184 : pPT[184]? = some pm_184 := rfl
set_option maxRecDepth 100000 in
theorem pg_185 : pPT[185]? = some pm_185 := rfl
set_option maxRecDepth 100000 in
theorem pg_188 : pPT[188]? = some pm_188 := rfl
set_option maxRecDepth 100000 in
theorem pg_193 : pPT[193]? = some pm_193 := rfl
set_option maxRecDepth 100000 in
theorem pg_196 : pPT[196]? = some pm_196 := rfl
set_option maxRecDepth 100000 in
theorem pg_213 : pPT[213]? = some pm_213 := rfl
set_option maxRecDepth 100000 in
theorem pg_215 : pPT[215]? = some pm_215 := rfl
set_option maxRecDepth 100000 in
theorem pg_216 : pPT[216]? = some pm_216 := rfl
set_option maxRecDepth 100000 in
theorem pg_217 : pPT[217]? = some pm_217 := rfl
set_option maxRecDepth 100000 in
theorem pg_218 : pPT[218]? = some pm_218 := rfl
set_option maxRecDepth 100000 in
theorem pg_219 : pPT[219]? = some pm_219 := rfl
set_option maxRecDepth 100000 in
theorem pg_220 : pPT[220]? = some pm_220 := rfl
set_option maxRecDepth 100000 in
theorem pg_222 : pPT[222]? = some pm_222 := rfl
set_option maxRecDepth 100000 in
theorem pg_224 : pPT[224]? = some pm_224 := rfl
set_option maxRecDepth 100000 in
theorem pg_226 : pPT[226]? = some pm_226 := rfl
set_option maxRecDepth 100000 in
theorem pg_228 : pPT[228]? = some pm_228 := rfl
set_option maxRecDepth 100000 in
theorem pg_229 : pPT[229]? = some pm_229 := rfl
set_option maxRecDepth 100000 in
theorem pg_230 : pPT[230]? = some pm_230 := rfl
set_option maxRecDepth 100000 in
theorem pg_231 : pPT[231]? = some pm_231 := rfl
set_option maxRecDepth 100000 in
theorem pg_233 : pPT[233]? = some pm_233 := rfl
set_option maxRecDepth 100000 in
theorem pg_235 : pPT[235]? = some pm_235 := rfl
set_option maxRecDepth 100000 in
theorem pg_237 : pPT[237]? = some pm_237 := rfl
set_option maxRecDepth 100000 in
theorem pg_239 : pPT[239]? = some pm_239 := rfl
set_option maxRecDepth 100000 in
theorem pg_240 : pPT[240]? = some pm_240 := rfl
set_option maxRecDepth 100000 in
theorem pg_241 : pPT[241]? = some pm_241 := rfl
set_option maxRecDepth 100000 in
theorem pg_245 : pPT[245]? = some pm_245 := rfl
set_option maxRecDepth 100000 in
theorem pg_246 : pPT[246]? = some pm_246 := rfl
set_option maxRecDepth 100000 in
theorem pg_249 : pPT[249]? = some pm_249 := rfl
set_option maxRecDepth 100000 in
theorem pg_250 : pPT[250]? = some pm_250 := rfl
set_option maxRecDepth 100000 in
theorem pg_251 : pPT[251]? = some pm_251 := rfl
set_option maxRecDepth 100000 in
theorem pg_252 : pPT[252]? = some pm_252 := rfl
set_option maxRecDepth 100000 in
theorem pg_253 : pPT[253]? = some pm_253 := rfl
set_option maxRecDepth 100000 in
theorem pg_258 : pPT[258]? = some pm_258 := rfl
set_option maxRecDepth 100000 in
theorem pg_262 : pPT[262]? = some pm_262 := rfl
set_option maxRecDepth 100000 in
theorem pg_263 : pPT[263]? = some pm_263 := rfl
set_option maxRecDepth 100000 in
theorem pg_266 : pPT[266]? = some pm_266 := rfl
set_option maxRecDepth 100000 in
theorem pg_269 : pPT[269]? = some pm_269 := rfl
set_option maxRecDepth 100000 in
theorem pg_270 : pPT[270]? = some pm_270 := rfl
set_option maxRecDepth 100000 in
theorem pg_271 : pPT[271]? = some pm_271 := rfl
set_option maxRecDepth 100000 in
theorem pg_272 : pPT[272]? = some pm_272 := rfl
set_option maxRecDepth 100000 in
theorem pg_273 : pPT[273]? = some pm_273 := rfl
