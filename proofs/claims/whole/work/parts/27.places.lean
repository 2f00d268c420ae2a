/-! Places of the table, constants, kinds of the cells. -/
theorem inc_0 : f_inc (m_is md_0) = true := by decide +kernel
theorem inc_1 : f_inc (m_is md_1) = true := by decide +kernel
theorem inc_2 : f_inc (m_is md_2) = true := by decide +kernel
theorem inc_3 : f_inc (m_is md_3) = true := by decide +kernel
theorem inc_4 : f_inc (m_is md_4) = true := by decide +kernel
theorem inc_5 : f_inc (m_is md_5) = true := by decide +kernel
theorem inc_6 : f_inc (m_is md_6) = true := by decide +kernel
theorem inc_7 : f_inc (m_is md_7) = true := by decide +kernel
theorem inc_8 : f_inc (m_is md_8) = true := by decide +kernel
theorem inc_9 : f_inc (m_is md_9) = true := by decide +kernel
theorem inc_10 : f_inc (m_is md_10) = true := by decide +kernel
theorem inc_11 : f_inc (m_is md_11) = true := by decide +kernel
theorem inc_12 : f_inc (m_is md_12) = true := by decide +kernel
theorem inc_13 : f_inc (m_is md_13) = true := by decide +kernel
theorem inc_14 : f_inc (m_is md_14) = true := by decide +kernel
theorem inc_15 : f_inc (m_is md_15) = true := by decide +kernel
theorem inc_16 : f_inc (m_is md_16) = true := by decide +kernel
theorem inc_17 : f_inc (m_is md_17) = true := by decide +kernel
theorem inc_18 : f_inc (m_is md_18) = true := by decide +kernel
theorem inc_19 : f_inc (m_is md_19) = true := by decide +kernel
theorem inc_20 : f_inc (m_is md_20) = true := by decide +kernel
theorem inc_21 : f_inc (m_is md_21) = true := by decide +kernel
theorem inc_22 : f_inc (m_is md_22) = true := by decide +kernel
theorem inc_23 : f_inc (m_is md_23) = true := by decide +kernel
theorem inc_24 : f_inc (m_is md_24) = true := by decide +kernel
theorem inc_25 : f_inc (m_is md_25) = true := by decide +kernel
theorem inc_26 : f_inc (m_is md_26) = true := by decide +kernel
theorem inc_27 : f_inc (m_is md_27) = true := by decide +kernel
theorem inc_28 : f_inc (m_is md_28) = true := by decide +kernel
theorem inc_29 : f_inc (m_is md_29) = true := by decide +kernel
theorem inc_30 : f_inc (m_is md_30) = true := by decide +kernel
theorem inc_31 : f_inc (m_is md_31) = true := by decide +kernel
theorem inc_32 : f_inc (m_is md_32) = true := by decide +kernel
theorem inc_33 : f_inc (m_is md_33) = true := by decide +kernel
theorem inc_34 : f_inc (m_is md_34) = true := by decide +kernel
theorem inc_35 : f_inc (m_is md_35) = true := by decide +kernel
theorem inc_36 : f_inc (m_is md_36) = true := by decide +kernel
theorem inc_37 : f_inc (m_is md_37) = true := by decide +kernel
theorem inc_38 : f_inc (m_is md_38) = true := by decide +kernel
theorem inc_39 : f_inc (m_is md_39) = true := by decide +kernel
theorem inc_40 : f_inc (m_is md_40) = true := by decide +kernel
theorem inc_41 : f_inc (m_is md_41) = true := by decide +kernel
theorem inc_42 : f_inc (m_is md_42) = true := by decide +kernel
theorem inc_43 : f_inc (m_is md_43) = true := by decide +kernel
theorem inc_44 : f_inc (m_is md_44) = true := by decide +kernel
theorem inc_45 : f_inc (m_is md_45) = true := by decide +kernel
theorem inc_46 : f_inc (m_is md_46) = true := by decide +kernel
theorem inc_47 : f_inc (m_is md_47) = true := by decide +kernel
theorem inc_48 : f_inc (m_is md_48) = true := by decide +kernel
theorem inc_49 : f_inc (m_is md_49) = true := by decide +kernel
theorem inc_50 : f_inc (m_is md_50) = true := by decide +kernel
theorem inc_51 : f_inc (m_is md_51) = true := by decide +kernel
theorem inc_52 : f_inc (m_is md_52) = true := by decide +kernel
theorem inc_53 : f_inc (m_is md_53) = true := by decide +kernel
theorem inc_54 : f_inc (m_is md_54) = true := by decide +kernel
theorem inc_55 : f_inc (m_is md_55) = true := by decide +kernel
theorem inc_56 : f_inc (m_is md_56) = true := by decide +kernel
theorem inc_57 : f_inc (m_is md_57) = true := by decide +kernel
theorem inc_58 : f_inc (m_is md_58) = true := by decide +kernel
theorem inc_59 : f_inc (m_is md_59) = true := by decide +kernel
theorem inc_60 : f_inc (m_is md_60) = true := by decide +kernel
theorem inc_61 : f_inc (m_is md_61) = true := by decide +kernel
theorem inc_62 : f_inc (m_is md_62) = true := by decide +kernel
theorem inc_63 : f_inc (m_is md_63) = true := by decide +kernel
theorem inc_64 : f_inc (m_is md_64) = true := by decide +kernel
theorem inc_65 : f_inc (m_is md_65) = true := by decide +kernel
theorem inc_66 : f_inc (m_is md_66) = true := by decide +kernel
theorem inc_67 : f_inc (m_is md_67) = true := by decide +kernel
theorem inc_68 : f_inc (m_is md_68) = true := by decide +kernel
theorem inc_69 : f_inc (m_is md_69) = true := by decide +kernel
theorem inc_70 : f_inc (m_is md_70) = true := by decide +kernel
theorem inc_71 : f_inc (m_is md_71) = true := by decide +kernel
theorem inc_72 : f_inc (m_is md_72) = true := by decide +kernel
theorem inc_73 : f_inc (m_is md_73) = true := by decide +kernel
theorem inc_74 : f_inc (m_is md_74) = true := by decide +kernel
theorem inc_75 : f_inc (m_is md_75) = true := by decide +kernel
theorem inc_76 : f_inc (m_is md_76) = true := by decide +kernel
theorem inc_77 : f_inc (m_is md_77) = true := by decide +kernel
theorem inc_78 : f_inc (m_is md_78) = true := by decide +kernel
theorem inc_79 : f_inc (m_is md_79) = true := by decide +kernel
theorem inc_80 : f_inc (m_is md_80) = true := by decide +kernel
theorem inc_81 : f_inc (m_is md_81) = true := by decide +kernel
theorem inc_82 : f_inc (m_is md_82) = true := by decide +kernel
theorem inc_83 : f_inc (m_is md_83) = true := by decide +kernel
theorem inc_84 : f_inc (m_is md_84) = true := by decide +kernel
theorem inc_85 : f_inc (m_is md_85) = true := by decide +kernel
theorem inc_86 : f_inc (m_is md_86) = true := by decide +kernel
theorem inc_87 : f_inc (m_is md_87) = true := by decide +kernel
theorem inc_88 : f_inc (m_is md_88) = true := by decide +kernel
theorem inc_89 : f_inc (m_is md_89) = true := by decide +kernel
theorem inc_90 : f_inc (m_is md_90) = true := by decide +kernel
theorem inc_91 : f_inc (m_is md_91) = true := by decide +kernel
theorem inc_92 : f_inc (m_is md_92) = true := by decide +kernel
theorem inc_93 : f_inc (m_is md_93) = true := by decide +kernel
theorem inc_94 : f_inc (m_is md_94) = true := by decide +kernel
theorem inc_95 : f_inc (m_is md_95) = true := by decide +kernel
theorem inc_96 : f_inc (m_is md_96) = true := by decide +kernel
theorem inc_97 : f_inc (m_is md_97) = true := by decide +kernel
theorem inc_98 : f_inc (m_is md_98) = true := by decide +kernel
theorem inc_99 : f_inc (m_is md_99) = true := by decide +kernel
theorem inc_100 : f_inc (m_is md_100) = true := by decide +kernel
theorem inc_101 : f_inc (m_is md_101) = true := by decide +kernel
theorem inc_102 : f_inc (m_is md_102) = true := by decide +kernel
theorem inc_103 : f_inc (m_is md_103) = true := by decide +kernel
theorem inc_104 : f_inc (m_is md_104) = true := by decide +kernel
theorem inc_105 : f_inc (m_is md_105) = true := by decide +kernel
theorem inc_106 : f_inc (m_is md_106) = true := by decide +kernel
theorem inc_107 : f_inc (m_is md_107) = true := by decide +kernel
theorem inc_108 : f_inc (m_is md_108) = true := by decide +kernel
theorem inc_109 : f_inc (m_is md_109) = true := by decide +kernel
theorem inc_110 : f_inc (m_is md_110) = true := by decide +kernel
theorem inc_111 : f_inc (m_is md_111) = true := by decide +kernel
theorem inc_112 : f_inc (m_is md_112) = true := by decide +kernel
theorem inc_113 : f_inc (m_is md_113) = true := by decide +kernel
theorem inc_114 : f_inc (m_is md_114) = true := by decide +kernel
theorem inc_115 : f_inc (m_is md_115) = true := by decide +kernel
theorem inc_116 : f_inc (m_is md_116) = true := by decide +kernel
theorem inc_117 : f_inc (m_is md_117) = true := by decide +kernel
theorem inc_118 : f_inc (m_is md_118) = true := by decide +kernel
theorem inc_119 : f_inc (m_is md_119) = true := by decide +kernel
theorem inc_120 : f_inc (m_is md_120) = true := by decide +kernel
theorem inc_121 : f_inc (m_is md_121) = true := by decide +kernel
theorem inc_122 : f_inc (m_is md_122) = true := by decide +kernel
theorem inc_123 : f_inc (m_is md_123) = true := by decide +kernel
theorem inc_124 : f_inc (m_is md_124) = true := by decide +kernel
theorem inc_125 : f_inc (m_is md_125) = true := by decide +kernel
theorem inc_126 : f_inc (m_is md_126) = true := by decide +kernel
theorem inc_127 : f_inc (m_is md_127) = true := by decide +kernel
theorem inc_128 : f_inc (m_is md_128) = true := by decide +kernel
theorem inc_129 : f_inc (m_is md_129) = true := by decide +kernel
theorem inc_130 : f_inc (m_is md_130) = true := by decide +kernel
theorem inc_131 : f_inc (m_is md_131) = true := by decide +kernel
theorem inc_132 : f_inc (m_is md_132) = true := by decide +kernel
theorem inc_133 : f_inc (m_is md_133) = true := by decide +kernel
theorem inc_134 : f_inc (m_is md_134) = true := by decide +kernel
theorem inc_135 : f_inc (m_is md_135) = true := by decide +kernel
theorem inc_136 : f_inc (m_is md_136) = true := by decide +kernel
theorem inc_137 : f_inc (m_is md_137) = true := by decide +kernel
theorem inc_138 : f_inc (m_is md_138) = true := by decide +kernel
theorem inc_139 : f_inc (m_is md_139) = true := by decide +kernel
theorem inc_140 : f_inc (m_is md_140) = true := by decide +kernel
theorem inc_141 : f_inc (m_is md_141) = true := by decide +kernel
theorem inc_142 : f_inc (m_is md_142) = true := by decide +kernel
theorem inc_143 : f_inc (m_is md_143) = true := by decide +kernel
theorem inc_144 : f_inc (m_is md_144) = true := by decide +kernel
theorem inc_145 : f_inc (m_is md_145) = true := by decide +kernel
theorem inc_146 : f_inc (m_is md_146) = true := by decide +kernel
theorem inc_147 : f_inc (m_is md_147) = true := by decide +kernel
theorem inc_148 : f_inc (m_is md_148) = true := by decide +kernel
theorem inc_149 : f_inc (m_is md_149) = true := by decide +kernel
theorem inc_150 : f_inc (m_is md_150) = true := by decide +kernel
theorem inc_151 : f_inc (m_is md_151) = true := by decide +kernel
theorem inc_152 : f_inc (m_is md_152) = true := by decide +kernel
theorem inc_153 : f_inc (m_is md_153) = true := by decide +kernel
theorem inc_154 : f_inc (m_is md_154) = true := by decide +kernel
theorem inc_155 : f_inc (m_is md_155) = true := by decide +kernel
theorem inc_156 : f_inc (m_is md_156) = true := by decide +kernel
theorem inc_157 : f_inc (m_is md_157) = true := by decide +kernel
theorem inc_158 : f_inc (m_is md_158) = true := by decide +kernel
theorem inc_159 : f_inc (m_is md_159) = true := by decide +kernel
theorem inc_160 : f_inc (m_is md_160) = true := by decide +kernel
theorem inc_161 : f_inc (m_is md_161) = true := by decide +kernel
theorem inc_162 : f_inc (m_is md_162) = true := by decide +kernel
theorem inc_163 : f_inc (m_is md_163) = true := by decide +kernel
theorem inc_164 : f_inc (m_is md_164) = true := by decide +kernel
theorem inc_165 : f_inc (m_is md_165) = true := by decide +kernel
theorem inc_166 : f_inc (m_is md_166) = true := by decide +kernel
theorem inc_167 : f_inc (m_is md_167) = true := by decide +kernel
theorem inc_168 : f_inc (m_is md_168) = true := by decide +kernel
theorem inc_169 : f_inc (m_is md_169) = true := by decide +kernel
theorem inc_170 : f_inc (m_is md_170) = true := by decide +kernel
theorem inc_171 : f_inc (m_is md_171) = true := by decide +kernel
theorem inc_172 : f_inc (m_is md_172) = true := by decide +kernel
theorem inc_173 : f_inc (m_is md_173) = true := by decide +kernel
theorem inc_174 : f_inc (m_is md_174) = true := by decide +kernel
theorem inc_175 : f_inc (m_is md_175) = true := by decide +kernel
theorem inc_176 : f_inc (m_is md_176) = true := by decide +kernel
theorem inc_177 : f_inc (m_is md_177) = true := by decide +kernel
theorem inc_178 : f_inc (m_is md_178) = true := by decide +kernel
theorem inc_179 : f_inc (m_is md_179) = true := by decide +kernel
theorem inc_180 : f_inc (m_is md_180) = true := by decide +kernel
theorem inc_181 : f_inc (m_is md_181) = true := by decide +kernel
theorem inc_182 : f_inc (m_is md_182) = true := by decide +kernel
theorem inc_183 : f_inc (m_is md_183) = true := by decide +kernel
theorem inc_184 : f_inc (m_is md_184) = true := by decide +kernel
theorem inc_185 : f_inc (m_is md_185) = true := by decide +kernel
theorem inc_186 : f_inc (m_is md_186) = true := by decide +kernel
theorem inc_187 : f_inc (m_is md_187) = true := by decide +kernel
theorem inc_188 : f_inc (m_is md_188) = true := by decide +kernel
theorem inc_189 : f_inc (m_is md_189) = true := by decide +kernel
theorem inc_190 : f_inc (m_is md_190) = true := by decide +kernel
theorem inc_191 : f_inc (m_is md_191) = true := by decide +kernel
theorem inc_192 : f_inc (m_is md_192) = true := by decide +kernel
theorem inc_193 : f_inc (m_is md_193) = true := by decide +kernel
theorem inc_194 : f_inc (m_is md_194) = true := by decide +kernel
theorem inc_195 : f_inc (m_is md_195) = true := by decide +kernel
theorem inc_196 : f_inc (m_is md_196) = true := by decide +kernel
theorem inc_197 : f_inc (m_is md_197) = true := by decide +kernel
theorem inc_198 : f_inc (m_is md_198) = true := by decide +kernel
theorem inc_199 : f_inc (m_is md_199) = true := by decide +kernel
theorem inc_200 : f_inc (m_is md_200) = true := by decide +kernel
theorem inc_201 : f_inc (m_is md_201) = true := by decide +kernel
theorem inc_202 : f_inc (m_is md_202) = true := by decide +kernel
theorem inc_203 : f_inc (m_is md_203) = true := by decide +kernel
theorem inc_204 : f_inc (m_is md_204) = true := by decide +kernel
theorem inc_205 : f_inc (m_is md_205) = true := by decide +kernel
theorem inc_206 : f_inc (m_is md_206) = true := by decide +kernel
theorem inc_207 : f_inc (m_is md_207) = true := by decide +kernel
theorem inc_208 : f_inc (m_is md_208) = true := by decide +kernel
theorem inc_209 : f_inc (m_is md_209) = true := by decide +kernel
theorem inc_210 : f_inc (m_is md_210) = true := by decide +kernel
theorem inc_211 : f_inc (m_is md_211) = true := by decide +kernel
theorem inc_212 : f_inc (m_is md_212) = true := by decide +kernel
theorem inc_213 : f_inc (m_is md_213) = true := by decide +kernel
theorem inc_214 : f_inc (m_is md_214) = true := by decide +kernel
theorem inc_215 : f_inc (m_is md_215) = true := by decide +kernel
theorem inc_216 : f_inc (m_is md_216) = true := by decide +kernel
theorem inc_217 : f_inc (m_is md_217) = true := by decide +kernel
theorem inc_218 : f_inc (m_is md_218) = true := by decide +kernel
theorem inc_219 : f_inc (m_is md_219) = true := by decide +kernel
theorem inc_220 : f_inc (m_is md_220) = true := by decide +kernel
theorem inc_221 : f_inc (m_is md_221) = true := by decide +kernel
theorem inc_222 : f_inc (m_is md_222) = true := by decide +kernel
theorem inc_223 : f_inc (m_is md_223) = true := by decide +kernel
theorem inc_224 : f_inc (m_is md_224) = true := by decide +kernel
theorem inc_225 : f_inc (m_is md_225) = true := by decide +kernel
theorem inc_226 : f_inc (m_is md_226) = true := by decide +kernel
theorem inc_227 : f_inc (m_is md_227) = true := by decide +kernel
theorem inc_228 : f_inc (m_is md_228) = true := by decide +kernel
theorem inc_229 : f_inc (m_is md_229) = true := by decide +kernel
theorem inc_230 : f_inc (m_is md_230) = true := by decide +kernel
theorem inc_231 : f_inc (m_is md_231) = true := by decide +kernel
theorem inc_232 : f_inc (m_is md_232) = true := by decide +kernel
theorem inc_233 : f_inc (m_is md_233) = true := by decide +kernel
theorem inc_234 : f_inc (m_is md_234) = true := by decide +kernel
theorem inc_235 : f_inc (m_is md_235) = true := by decide +kernel
theorem inc_236 : f_inc (m_is md_236) = true := by decide +kernel
theorem inc_237 : f_inc (m_is md_237) = true := by decide +kernel
theorem inc_238 : f_inc (m_is md_238) = true := by decide +kernel
theorem inc_239 : f_inc (m_is md_239) = true := by decide +kernel
theorem inc_240 : f_inc (m_is md_240) = true := by decide +kernel
theorem inc_241 : f_inc (m_is md_241) = true := by decide +kernel
theorem inc_242 : f_inc (m_is md_242) = true := by decide +kernel
theorem inc_243 : f_inc (m_is md_243) = true := by decide +kernel
theorem inc_244 : f_inc (m_is md_244) = true := by decide +kernel
theorem inc_245 : f_inc (m_is md_245) = true := by decide +kernel
theorem inc_246 : f_inc (m_is md_246) = true := by decide +kernel
theorem inc_247 : f_inc (m_is md_247) = true := by decide +kernel
theorem inc_248 : f_inc (m_is md_248) = true := by decide +kernel
theorem inc_249 : f_inc (m_is md_249) = true := by decide +kernel
theorem inc_250 : f_inc (m_is md_250) = true := by decide +kernel
theorem inc_251 : f_inc (m_is md_251) = true := by decide +kernel
theorem inc_252 : f_inc (m_is md_252) = true := by decide +kernel
theorem inc_253 : f_inc (m_is md_253) = true := by decide +kernel
theorem inc_254 : f_inc (m_is md_254) = true := by decide +kernel
theorem inc_255 : f_inc (m_is md_255) = true := by decide +kernel
theorem inc_256 : f_inc (m_is md_256) = true := by decide +kernel
theorem inc_257 : f_inc (m_is md_257) = true := by decide +kernel
theorem inc_258 : f_inc (m_is md_258) = true := by decide +kernel
theorem inc_259 : f_inc (m_is md_259) = true := by decide +kernel
theorem inc_260 : f_inc (m_is md_260) = true := by decide +kernel
theorem inc_261 : f_inc (m_is md_261) = true := by decide +kernel
theorem inc_262 : f_inc (m_is md_262) = true := by decide +kernel
theorem inc_263 : f_inc (m_is md_263) = true := by decide +kernel
theorem inc_264 : f_inc (m_is md_264) = true := by decide +kernel
theorem inc_265 : f_inc (m_is md_265) = true := by decide +kernel
theorem inc_266 : f_inc (m_is md_266) = true := by decide +kernel
theorem inc_267 : f_inc (m_is md_267) = true := by decide +kernel
theorem inc_268 : f_inc (m_is md_268) = true := by decide +kernel
theorem inc_269 : f_inc (m_is md_269) = true := by decide +kernel
theorem inc_270 : f_inc (m_is md_270) = true := by decide +kernel
theorem inc_271 : f_inc (m_is md_271) = true := by decide +kernel
theorem inc_272 : f_inc (m_is md_272) = true := by decide +kernel
theorem inc_273 : f_inc (m_is md_273) = true := by decide +kernel
theorem inc_274 : f_inc (m_is md_274) = true := by decide +kernel
theorem inc_275 : f_inc (m_is md_275) = true := by decide +kernel
theorem inc_276 : f_inc (m_is md_276) = true := by decide +kernel
theorem inc_277 : f_inc (m_is md_277) = true := by decide +kernel
theorem inc_278 : f_inc (m_is md_278) = true := by decide +kernel
theorem inc_279 : f_inc (m_is md_279) = true := by decide +kernel
theorem inc_280 : f_inc (m_is md_280) = true := by decide +kernel
theorem inc_281 : f_inc (m_is md_281) = true := by decide +kernel
theorem inc_282 : f_inc (m_is md_282) = true := by decide +kernel
theorem inc_283 : f_inc (m_is md_283) = true := by decide +kernel
theorem inc_284 : f_inc (m_is md_284) = true := by decide +kernel
theorem inc_285 : f_inc (m_is md_285) = true := by decide +kernel
theorem inc_286 : f_inc (m_is md_286) = true := by decide +kernel
theorem inc_287 : f_inc (m_is md_287) = true := by decide +kernel
theorem inc_288 : f_inc (m_is md_288) = true := by decide +kernel
theorem inc_289 : f_inc (m_is md_289) = true := by decide +kernel
theorem inc_290 : f_inc (m_is md_290) = true := by decide +kernel
theorem inc_291 : f_inc (m_is md_291) = true := by decide +kernel
theorem inc_292 : f_inc (m_is md_292) = true := by decide +kernel
theorem inc_293 : f_inc (m_is md_293) = true := by decide +kernel
theorem inc_294 : f_inc (m_is md_294) = true := by decide +kernel
theorem inc_295 : f_inc (m_is md_295) = true := by decide +kernel
theorem inc_296 : f_inc (m_is md_296) = true := by decide +kernel
theorem inc_297 : f_inc (m_is md_297) = true := by decide +kernel
theorem inc_298 : f_inc (m_is md_298) = true := by decide +kernel
theorem inc_299 : f_inc (m_is md_299) = true := by decide +kernel
theorem inc_300 : f_inc (m_is md_300) = true := by decide +kernel
theorem inc_301 : f_inc (m_is md_301) = true := by decide +kernel
theorem inc_302 : f_inc (m_is md_302) = true := by decide +kernel
theorem inc_303 : f_inc (m_is md_303) = true := by decide +kernel
theorem inc_304 : f_inc (m_is md_304) = true := by decide +kernel
theorem inc_305 : f_inc (m_is md_305) = true := by decide +kernel
theorem inc_306 : f_inc (m_is md_306) = true := by decide +kernel
theorem inc_307 : f_inc (m_is md_307) = true := by decide +kernel
theorem inc_308 : f_inc (m_is md_308) = true := by decide +kernel
theorem inc_309 : f_inc (m_is md_309) = true := by decide +kernel
theorem inc_310 : f_inc (m_is md_310) = true := by decide +kernel
theorem inc_311 : f_inc (m_is md_311) = true := by decide +kernel
theorem inc_312 : f_inc (m_is md_312) = true := by decide +kernel
theorem inc_313 : f_inc (m_is md_313) = true := by decide +kernel
theorem inc_314 : f_inc (m_is md_314) = true := by decide +kernel
theorem inc_315 : f_inc (m_is md_315) = true := by decide +kernel
theorem inc_316 : f_inc (m_is md_316) = true := by decide +kernel
theorem inc_317 : f_inc (m_is md_317) = true := by decide +kernel
theorem inc_318 : f_inc (m_is md_318) = true := by decide +kernel
theorem inc_319 : f_inc (m_is md_319) = true := by decide +kernel
theorem inc_320 : f_inc (m_is md_320) = true := by decide +kernel
theorem inc_321 : f_inc (m_is md_321) = true := by decide +kernel
theorem inc_322 : f_inc (m_is md_322) = true := by decide +kernel
theorem inc_323 : f_inc (m_is md_323) = true := by decide +kernel
theorem inc_324 : f_inc (m_is md_324) = true := by decide +kernel
theorem inc_325 : f_inc (m_is md_325) = true := by decide +kernel
theorem inc_326 : f_inc (m_is md_326) = true := by decide +kernel
theorem inc_327 : f_inc (m_is md_327) = true := by decide +kernel
theorem inc_328 : f_inc (m_is md_328) = true := by decide +kernel
theorem inc_329 : f_inc (m_is md_329) = true := by decide +kernel
theorem inc_330 : f_inc (m_is md_330) = true := by decide +kernel
theorem inc_331 : f_inc (m_is md_331) = true := by decide +kernel
theorem inc_332 : f_inc (m_is md_332) = true := by decide +kernel
theorem inc_333 : f_inc (m_is md_333) = true := by decide +kernel
theorem inc_334 : f_inc (m_is md_334) = true := by decide +kernel
theorem inc_335 : f_inc (m_is md_335) = true := by decide +kernel
theorem inc_336 : f_inc (m_is md_336) = true := by decide +kernel
theorem inc_337 : f_inc (m_is md_337) = true := by decide +kernel
theorem inc_338 : f_inc (m_is md_338) = true := by decide +kernel
theorem inc_339 : f_inc (m_is md_339) = true := by decide +kernel
theorem inc_340 : f_inc (m_is md_340) = true := by decide +kernel
theorem inc_341 : f_inc (m_is md_341) = true := by decide +kernel
theorem inc_342 : f_inc (m_is md_342) = true := by decide +kernel
theorem inc_343 : f_inc (m_is md_343) = true := by decide +kernel
theorem inc_344 : f_inc (m_is md_344) = true := by decide +kernel
theorem inc_345 : f_inc (m_is md_345) = true := by decide +kernel
theorem inc_346 : f_inc (m_is md_346) = true := by decide +kernel
theorem inc_347 : f_inc (m_is md_347) = true := by decide +kernel
theorem inc_348 : f_inc (m_is md_348) = true := by decide +kernel
theorem inc_349 : f_inc (m_is md_349) = true := by decide +kernel
theorem inc_350 : f_inc (m_is md_350) = true := by decide +kernel
theorem inc_351 : f_inc (m_is md_351) = true := by decide +kernel
theorem inc_352 : f_inc (m_is md_352) = true := by decide +kernel
theorem inc_353 : f_inc (m_is md_353) = true := by decide +kernel
theorem inc_354 : f_inc (m_is md_354) = true := by decide +kernel
theorem inc_355 : f_inc (m_is md_355) = true := by decide +kernel
theorem inc_356 : f_inc (m_is md_356) = true := by decide +kernel
theorem inc_357 : f_inc (m_is md_357) = true := by decide +kernel
theorem inc_358 : f_inc (m_is md_358) = true := by decide +kernel
theorem MT_0 : a_MT 0 = some md_0 := rfl
theorem MT_1 : a_MT 1 = some md_1 := rfl
theorem MT_2 : a_MT 2 = some md_2 := rfl
theorem MT_3 : a_MT 3 = some md_3 := rfl
theorem MT_4 : a_MT 4 = some md_4 := rfl
theorem MT_5 : a_MT 5 = some md_5 := rfl
theorem MT_6 : a_MT 6 = some md_6 := rfl
theorem MT_7 : a_MT 7 = some md_7 := rfl
theorem MT_8 : a_MT 8 = some md_8 := rfl
theorem MT_9 : a_MT 9 = some md_9 := rfl
theorem MT_10 : a_MT 10 = some md_10 := rfl
theorem MT_11 : a_MT 11 = some md_11 := rfl
theorem MT_12 : a_MT 12 = some md_12 := rfl
theorem MT_13 : a_MT 13 = some md_13 := rfl
theorem MT_14 : a_MT 14 = some md_14 := rfl
theorem MT_15 : a_MT 15 = some md_15 := rfl
theorem MT_16 : a_MT 16 = some md_16 := rfl
theorem MT_17 : a_MT 17 = some md_17 := rfl
theorem MT_18 : a_MT 18 = some md_18 := rfl
theorem MT_19 : a_MT 19 = some md_19 := rfl
theorem MT_20 : a_MT 20 = some md_20 := rfl
theorem MT_21 : a_MT 21 = some md_21 := rfl
theorem MT_22 : a_MT 22 = some md_22 := rfl
theorem MT_23 : a_MT 23 = some md_23 := rfl
theorem MT_24 : a_MT 24 = some md_24 := rfl
theorem MT_25 : a_MT 25 = some md_25 := rfl
theorem MT_26 : a_MT 26 = some md_26 := rfl
theorem MT_27 : a_MT 27 = some md_27 := rfl
theorem MT_28 : a_MT 28 = some md_28 := rfl
theorem MT_29 : a_MT 29 = some md_29 := rfl
theorem MT_30 : a_MT 30 = some md_30 := rfl
theorem MT_31 : a_MT 31 = some md_31 := rfl
theorem MT_32 : a_MT 32 = some md_32 := rfl
theorem MT_33 : a_MT 33 = some md_33 := rfl
theorem MT_34 : a_MT 34 = some md_34 := rfl
theorem MT_35 : a_MT 35 = some md_35 := rfl
theorem MT_36 : a_MT 36 = some md_36 := rfl
theorem MT_37 : a_MT 37 = some md_37 := rfl
theorem MT_38 : a_MT 38 = some md_38 := rfl
theorem MT_39 : a_MT 39 = some md_39 := rfl
theorem MT_40 : a_MT 40 = some md_40 := rfl
theorem MT_41 : a_MT 41 = some md_41 := rfl
theorem MT_42 : a_MT 42 = some md_42 := rfl
theorem MT_43 : a_MT 43 = some md_43 := rfl
theorem MT_44 : a_MT 44 = some md_44 := rfl
theorem MT_45 : a_MT 45 = some md_45 := rfl
theorem MT_46 : a_MT 46 = some md_46 := rfl
theorem MT_47 : a_MT 47 = some md_47 := rfl
theorem MT_48 : a_MT 48 = some md_48 := rfl
theorem MT_49 : a_MT 49 = some md_49 := rfl
theorem MT_50 : a_MT 50 = some md_50 := rfl
theorem MT_51 : a_MT 51 = some md_51 := rfl
theorem MT_52 : a_MT 52 = some md_52 := rfl
theorem MT_53 : a_MT 53 = some md_53 := rfl
theorem MT_54 : a_MT 54 = some md_54 := rfl
theorem MT_55 : a_MT 55 = some md_55 := rfl
theorem MT_56 : a_MT 56 = some md_56 := rfl
theorem MT_57 : a_MT 57 = some md_57 := rfl
theorem MT_58 : a_MT 58 = some md_58 := rfl
theorem MT_59 : a_MT 59 = some md_59 := rfl
theorem MT_60 : a_MT 60 = some md_60 := rfl
theorem MT_61 : a_MT 61 = some md_61 := rfl
theorem MT_62 : a_MT 62 = some md_62 := rfl
theorem MT_63 : a_MT 63 = some md_63 := rfl
theorem MT_64 : a_MT 64 = some md_64 := rfl
theorem MT_65 : a_MT 65 = some md_65 := rfl
theorem MT_66 : a_MT 66 = some md_66 := rfl
theorem MT_67 : a_MT 67 = some md_67 := rfl
theorem MT_68 : a_MT 68 = some md_68 := rfl
theorem MT_69 : a_MT 69 = some md_69 := rfl
theorem MT_70 : a_MT 70 = some md_70 := rfl
theorem MT_71 : a_MT 71 = some md_71 := rfl
theorem MT_72 : a_MT 72 = some md_72 := rfl
theorem MT_73 : a_MT 73 = some md_73 := rfl
theorem MT_74 : a_MT 74 = some md_74 := rfl
theorem MT_75 : a_MT 75 = some md_75 := rfl
theorem MT_76 : a_MT 76 = some md_76 := rfl
theorem MT_77 : a_MT 77 = some md_77 := rfl
theorem MT_78 : a_MT 78 = some md_78 := rfl
theorem MT_79 : a_MT 79 = some md_79 := rfl
theorem MT_80 : a_MT 80 = some md_80 := rfl
theorem MT_81 : a_MT 81 = some md_81 := rfl
theorem MT_82 : a_MT 82 = some md_82 := rfl
theorem MT_83 : a_MT 83 = some md_83 := rfl
theorem MT_84 : a_MT 84 = some md_84 := rfl
theorem MT_85 : a_MT 85 = some md_85 := rfl
theorem MT_86 : a_MT 86 = some md_86 := rfl
theorem MT_87 : a_MT 87 = some md_87 := rfl
theorem MT_88 : a_MT 88 = some md_88 := rfl
theorem MT_89 : a_MT 89 = some md_89 := rfl
theorem MT_90 : a_MT 90 = some md_90 := rfl
theorem MT_91 : a_MT 91 = some md_91 := rfl
theorem MT_92 : a_MT 92 = some md_92 := rfl
theorem MT_93 : a_MT 93 = some md_93 := rfl
theorem MT_94 : a_MT 94 = some md_94 := rfl
theorem MT_95 : a_MT 95 = some md_95 := rfl
theorem MT_96 : a_MT 96 = some md_96 := rfl
theorem MT_97 : a_MT 97 = some md_97 := rfl
theorem MT_98 : a_MT 98 = some md_98 := rfl
theorem MT_99 : a_MT 99 = some md_99 := rfl
theorem MT_100 : a_MT 100 = some md_100 := rfl
theorem MT_101 : a_MT 101 = some md_101 := rfl
theorem MT_102 : a_MT 102 = some md_102 := rfl
theorem MT_103 : a_MT 103 = some md_103 := rfl
theorem MT_104 : a_MT 104 = some md_104 := rfl
theorem MT_105 : a_MT 105 = some md_105 := rfl
theorem MT_106 : a_MT 106 = some md_106 := rfl
theorem MT_107 : a_MT 107 = some md_107 := rfl
theorem MT_108 : a_MT 108 = some md_108 := rfl
theorem MT_109 : a_MT 109 = some md_109 := rfl
theorem MT_110 : a_MT 110 = some md_110 := rfl
theorem MT_111 : a_MT 111 = some md_111 := rfl
theorem MT_112 : a_MT 112 = some md_112 := rfl
theorem MT_113 : a_MT 113 = some md_113 := rfl
theorem MT_114 : a_MT 114 = some md_114 := rfl
theorem MT_115 : a_MT 115 = some md_115 := rfl
theorem MT_116 : a_MT 116 = some md_116 := rfl
theorem MT_117 : a_MT 117 = some md_117 := rfl
theorem MT_118 : a_MT 118 = some md_118 := rfl
theorem MT_119 : a_MT 119 = some md_119 := rfl
theorem MT_120 : a_MT 120 = some md_120 := rfl
theorem MT_121 : a_MT 121 = some md_121 := rfl
theorem MT_122 : a_MT 122 = some md_122 := rfl
theorem MT_123 : a_MT 123 = some md_123 := rfl
theorem MT_124 : a_MT 124 = some md_124 := rfl
theorem MT_125 : a_MT 125 = some md_125 := rfl
theorem MT_126 : a_MT 126 = some md_126 := rfl
theorem MT_127 : a_MT 127 = some md_127 := rfl
theorem MT_128 : a_MT 128 = some md_128 := rfl
theorem MT_129 : a_MT 129 = some md_129 := rfl
theorem MT_130 : a_MT 130 = some md_130 := rfl
theorem MT_131 : a_MT 131 = some md_131 := rfl
theorem MT_132 : a_MT 132 = some md_132 := rfl
theorem MT_133 : a_MT 133 = some md_133 := rfl
theorem MT_134 : a_MT 134 = some md_134 := rfl
theorem MT_135 : a_MT 135 = some md_135 := rfl
theorem MT_136 : a_MT 136 = some md_136 := rfl
theorem MT_137 : a_MT 137 = some md_137 := rfl
theorem MT_138 : a_MT 138 = some md_138 := rfl
theorem MT_139 : a_MT 139 = some md_139 := rfl
theorem MT_140 : a_MT 140 = some md_140 := rfl
theorem MT_141 : a_MT 141 = some md_141 := rfl
theorem MT_142 : a_MT 142 = some md_142 := rfl
theorem MT_143 : a_MT 143 = some md_143 := rfl
theorem MT_144 : a_MT 144 = some md_144 := rfl
theorem MT_145 : a_MT 145 = some md_145 := rfl
theorem MT_146 : a_MT 146 = some md_146 := rfl
theorem MT_147 : a_MT 147 = some md_147 := rfl
theorem MT_148 : a_MT 148 = some md_148 := rfl
theorem MT_149 : a_MT 149 = some md_149 := rfl
theorem MT_150 : a_MT 150 = some md_150 := rfl
theorem MT_151 : a_MT 151 = some md_151 := rfl
theorem MT_152 : a_MT 152 = some md_152 := rfl
theorem MT_153 : a_MT 153 = some md_153 := rfl
theorem MT_154 : a_MT 154 = some md_154 := rfl
theorem MT_155 : a_MT 155 = some md_155 := rfl
theorem MT_156 : a_MT 156 = some md_156 := rfl
theorem MT_157 : a_MT 157 = some md_157 := rfl
theorem MT_158 : a_MT 158 = some md_158 := rfl
theorem MT_159 : a_MT 159 = some md_159 := rfl
theorem MT_160 : a_MT 160 = some md_160 := rfl
theorem MT_161 : a_MT 161 = some md_161 := rfl
theorem MT_162 : a_MT 162 = some md_162 := rfl
theorem MT_163 : a_MT 163 = some md_163 := rfl
theorem MT_164 : a_MT 164 = some md_164 := rfl
theorem MT_165 : a_MT 165 = some md_165 := rfl
theorem MT_166 : a_MT 166 = some md_166 := rfl
theorem MT_167 : a_MT 167 = some md_167 := rfl
theorem MT_168 : a_MT 168 = some md_168 := rfl
theorem MT_169 : a_MT 169 = some md_169 := rfl
theorem MT_170 : a_MT 170 = some md_170 := rfl
theorem MT_171 : a_MT 171 = some md_171 := rfl
theorem MT_172 : a_MT 172 = some md_172 := rfl
theorem MT_173 : a_MT 173 = some md_173 := rfl
theorem MT_174 : a_MT 174 = some md_174 := rfl
theorem MT_175 : a_MT 175 = some md_175 := rfl
theorem MT_176 : a_MT 176 = some md_176 := rfl
theorem MT_177 : a_MT 177 = some md_177 := rfl
theorem MT_178 : a_MT 178 = some md_178 := rfl
theorem MT_179 : a_MT 179 = some md_179 := rfl
theorem MT_180 : a_MT 180 = some md_180 := rfl
theorem MT_181 : a_MT 181 = some md_181 := rfl
theorem MT_182 : a_MT 182 = some md_182 := rfl
theorem MT_183 : a_MT 183 = some md_183 := rfl
theorem MT_184 : a_MT 184 = some md_184 := rfl
theorem MT_185 : a_MT 185 = some md_185 := rfl
theorem MT_186 : a_MT 186 = some md_186 := rfl
theorem MT_187 : a_MT 187 = some md_187 := rfl
theorem MT_188 : a_MT 188 = some md_188 := rfl
theorem MT_189 : a_MT 189 = some md_189 := rfl
theorem MT_190 : a_MT 190 = some md_190 := rfl
theorem MT_191 : a_MT 191 = some md_191 := rfl
theorem MT_192 : a_MT 192 = some md_192 := rfl
theorem MT_193 : a_MT 193 = some md_193 := rfl
theorem MT_194 : a_MT 194 = some md_194 := rfl
theorem MT_195 : a_MT 195 = some md_195 := rfl
theorem MT_196 : a_MT 196 = some md_196 := rfl
theorem MT_197 : a_MT 197 = some md_197 := rfl
theorem MT_198 : a_MT 198 = some md_198 := rfl
theorem MT_199 : a_MT 199 = some md_199 := rfl
theorem MT_200 : a_MT 200 = some md_200 := rfl
theorem MT_201 : a_MT 201 = some md_201 := rfl
theorem MT_202 : a_MT 202 = some md_202 := rfl
theorem MT_203 : a_MT 203 = some md_203 := rfl
theorem MT_204 : a_MT 204 = some md_204 := rfl
theorem MT_205 : a_MT 205 = some md_205 := rfl
theorem MT_206 : a_MT 206 = some md_206 := rfl
theorem MT_207 : a_MT 207 = some md_207 := rfl
theorem MT_208 : a_MT 208 = some md_208 := rfl
theorem MT_209 : a_MT 209 = some md_209 := rfl
theorem MT_210 : a_MT 210 = some md_210 := rfl
theorem MT_211 : a_MT 211 = some md_211 := rfl
theorem MT_212 : a_MT 212 = some md_212 := rfl
theorem MT_213 : a_MT 213 = some md_213 := rfl
theorem MT_214 : a_MT 214 = some md_214 := rfl
theorem MT_215 : a_MT 215 = some md_215 := rfl
theorem MT_216 : a_MT 216 = some md_216 := rfl
theorem MT_217 : a_MT 217 = some md_217 := rfl
theorem MT_218 : a_MT 218 = some md_218 := rfl
theorem MT_219 : a_MT 219 = some md_219 := rfl
theorem MT_220 : a_MT 220 = some md_220 := rfl
theorem MT_221 : a_MT 221 = some md_221 := rfl
theorem MT_222 : a_MT 222 = some md_222 := rfl
theorem MT_223 : a_MT 223 = some md_223 := rfl
theorem MT_224 : a_MT 224 = some md_224 := rfl
theorem MT_225 : a_MT 225 = some md_225 := rfl
theorem MT_226 : a_MT 226 = some md_226 := rfl
theorem MT_227 : a_MT 227 = some md_227 := rfl
theorem MT_228 : a_MT 228 = some md_228 := rfl
theorem MT_229 : a_MT 229 = some md_229 := rfl
theorem MT_230 : a_MT 230 = some md_230 := rfl
theorem MT_231 : a_MT 231 = some md_231 := rfl
theorem MT_232 : a_MT 232 = some md_232 := rfl
theorem MT_233 : a_MT 233 = some md_233 := rfl
theorem MT_234 : a_MT 234 = some md_234 := rfl
theorem MT_235 : a_MT 235 = some md_235 := rfl
theorem MT_236 : a_MT 236 = some md_236 := rfl
theorem MT_237 : a_MT 237 = some md_237 := rfl
theorem MT_238 : a_MT 238 = some md_238 := rfl
theorem MT_239 : a_MT 239 = some md_239 := rfl
theorem MT_240 : a_MT 240 = some md_240 := rfl
theorem MT_241 : a_MT 241 = some md_241 := rfl
theorem MT_242 : a_MT 242 = some md_242 := rfl
theorem MT_243 : a_MT 243 = some md_243 := rfl
theorem MT_244 : a_MT 244 = some md_244 := rfl
theorem MT_245 : a_MT 245 = some md_245 := rfl
theorem MT_246 : a_MT 246 = some md_246 := rfl
theorem MT_247 : a_MT 247 = some md_247 := rfl
theorem MT_248 : a_MT 248 = some md_248 := rfl
theorem MT_249 : a_MT 249 = some md_249 := rfl
theorem MT_250 : a_MT 250 = some md_250 := rfl
theorem MT_251 : a_MT 251 = some md_251 := rfl
theorem MT_252 : a_MT 252 = some md_252 := rfl
theorem MT_253 : a_MT 253 = some md_253 := rfl
theorem MT_254 : a_MT 254 = some md_254 := rfl
theorem MT_255 : a_MT 255 = some md_255 := rfl
theorem MT_256 : a_MT 256 = some md_256 := rfl
theorem MT_257 : a_MT 257 = some md_257 := rfl
theorem MT_258 : a_MT 258 = some md_258 := rfl
theorem MT_259 : a_MT 259 = some md_259 := rfl
theorem MT_260 : a_MT 260 = some md_260 := rfl
theorem MT_261 : a_MT 261 = some md_261 := rfl
theorem MT_262 : a_MT 262 = some md_262 := rfl
theorem MT_263 : a_MT 263 = some md_263 := rfl
theorem MT_264 : a_MT 264 = some md_264 := rfl
theorem MT_265 : a_MT 265 = some md_265 := rfl
theorem MT_266 : a_MT 266 = some md_266 := rfl
theorem MT_267 : a_MT 267 = some md_267 := rfl
theorem MT_268 : a_MT 268 = some md_268 := rfl
theorem MT_269 : a_MT 269 = some md_269 := rfl
theorem MT_270 : a_MT 270 = some md_270 := rfl
theorem MT_271 : a_MT 271 = some md_271 := rfl
theorem MT_272 : a_MT 272 = some md_272 := rfl
theorem MT_273 : a_MT 273 = some md_273 := rfl
theorem MT_274 : a_MT 274 = some md_274 := rfl
theorem MT_275 : a_MT 275 = some md_275 := rfl
theorem MT_276 : a_MT 276 = some md_276 := rfl
theorem MT_277 : a_MT 277 = some md_277 := rfl
theorem MT_278 : a_MT 278 = some md_278 := rfl
theorem MT_279 : a_MT 279 = some md_279 := rfl
theorem MT_280 : a_MT 280 = some md_280 := rfl
theorem MT_281 : a_MT 281 = some md_281 := rfl
theorem MT_282 : a_MT 282 = some md_282 := rfl
theorem MT_283 : a_MT 283 = some md_283 := rfl
theorem MT_284 : a_MT 284 = some md_284 := rfl
theorem MT_285 : a_MT 285 = some md_285 := rfl
theorem MT_286 : a_MT 286 = some md_286 := rfl
theorem MT_287 : a_MT 287 = some md_287 := rfl
theorem MT_288 : a_MT 288 = some md_288 := rfl
theorem MT_289 : a_MT 289 = some md_289 := rfl
theorem MT_290 : a_MT 290 = some md_290 := rfl
theorem MT_291 : a_MT 291 = some md_291 := rfl
theorem MT_292 : a_MT 292 = some md_292 := rfl
theorem MT_293 : a_MT 293 = some md_293 := rfl
theorem MT_294 : a_MT 294 = some md_294 := rfl
theorem MT_295 : a_MT 295 = some md_295 := rfl
theorem MT_296 : a_MT 296 = some md_296 := rfl
theorem MT_297 : a_MT 297 = some md_297 := rfl
theorem MT_298 : a_MT 298 = some md_298 := rfl
theorem MT_299 : a_MT 299 = some md_299 := rfl
theorem MT_300 : a_MT 300 = some md_300 := rfl
theorem MT_301 : a_MT 301 = some md_301 := rfl
theorem MT_302 : a_MT 302 = some md_302 := rfl
theorem MT_303 : a_MT 303 = some md_303 := rfl
theorem MT_304 : a_MT 304 = some md_304 := rfl
theorem MT_305 : a_MT 305 = some md_305 := rfl
theorem MT_306 : a_MT 306 = some md_306 := rfl
theorem MT_307 : a_MT 307 = some md_307 := rfl
theorem MT_308 : a_MT 308 = some md_308 := rfl
theorem MT_309 : a_MT 309 = some md_309 := rfl
theorem MT_310 : a_MT 310 = some md_310 := rfl
theorem MT_311 : a_MT 311 = some md_311 := rfl
theorem MT_312 : a_MT 312 = some md_312 := rfl
theorem MT_313 : a_MT 313 = some md_313 := rfl
theorem MT_314 : a_MT 314 = some md_314 := rfl
theorem MT_315 : a_MT 315 = some md_315 := rfl
theorem MT_316 : a_MT 316 = some md_316 := rfl
theorem MT_317 : a_MT 317 = some md_317 := rfl
theorem MT_318 : a_MT 318 = some md_318 := rfl
theorem MT_319 : a_MT 319 = some md_319 := rfl
theorem MT_320 : a_MT 320 = some md_320 := rfl
theorem MT_321 : a_MT 321 = some md_321 := rfl
theorem MT_322 : a_MT 322 = some md_322 := rfl
theorem MT_323 : a_MT 323 = some md_323 := rfl
theorem MT_324 : a_MT 324 = some md_324 := rfl
theorem MT_325 : a_MT 325 = some md_325 := rfl
theorem MT_326 : a_MT 326 = some md_326 := rfl
theorem MT_327 : a_MT 327 = some md_327 := rfl
theorem MT_328 : a_MT 328 = some md_328 := rfl
theorem MT_329 : a_MT 329 = some md_329 := rfl
theorem MT_330 : a_MT 330 = some md_330 := rfl
theorem MT_331 : a_MT 331 = some md_331 := rfl
theorem MT_332 : a_MT 332 = some md_332 := rfl
theorem MT_333 : a_MT 333 = some md_333 := rfl
theorem MT_334 : a_MT 334 = some md_334 := rfl
theorem MT_335 : a_MT 335 = some md_335 := rfl
theorem MT_336 : a_MT 336 = some md_336 := rfl
theorem MT_337 : a_MT 337 = some md_337 := rfl
theorem MT_338 : a_MT 338 = some md_338 := rfl
theorem MT_339 : a_MT 339 = some md_339 := rfl
theorem MT_340 : a_MT 340 = some md_340 := rfl
theorem MT_341 : a_MT 341 = some md_341 := rfl
theorem MT_342 : a_MT 342 = some md_342 := rfl
theorem MT_343 : a_MT 343 = some md_343 := rfl
theorem MT_344 : a_MT 344 = some md_344 := rfl
theorem MT_345 : a_MT 345 = some md_345 := rfl
theorem MT_346 : a_MT 346 = some md_346 := rfl
theorem MT_347 : a_MT 347 = some md_347 := rfl
theorem MT_348 : a_MT 348 = some md_348 := rfl
theorem MT_349 : a_MT 349 = some md_349 := rfl
theorem MT_350 : a_MT 350 = some md_350 := rfl
theorem MT_351 : a_MT 351 = some md_351 := rfl
theorem MT_352 : a_MT 352 = some md_352 := rfl
theorem MT_353 : a_MT 353 = some md_353 := rfl
theorem MT_354 : a_MT 354 = some md_354 := rfl
theorem MT_355 : a_MT 355 = some md_355 := rfl
theorem MT_356 : a_MT 356 = some md_356 := rfl
theorem MT_357 : a_MT 357 = some md_357 := rfl
theorem cb_6 : (Int8.ofInt (6)).toInt32 = (6 : Int32) := by decide +kernel
theorem cb_7 : (Int8.ofInt (7)).toInt32 = (7 : Int32) := by decide +kernel
theorem cb_8 : (Int8.ofInt (8)).toInt32 = (8 : Int32) := by decide +kernel
theorem cb_9 : (Int8.ofInt (9)).toInt32 = (9 : Int32) := by decide +kernel
theorem cb_10 : (Int8.ofInt (10)).toInt32 = (10 : Int32) := by decide +kernel
theorem cb_16 : (Int8.ofInt (16)).toInt32 = (16 : Int32) := by decide +kernel
theorem cb_19 : (Int8.ofInt (19)).toInt32 = (19 : Int32) := by decide +kernel
theorem cb_20 : (Int8.ofInt (20)).toInt32 = (20 : Int32) := by decide +kernel
theorem cb_24 : (Int8.ofInt (24)).toInt32 = (24 : Int32) := by decide +kernel
theorem cb_30 : (Int8.ofInt (30)).toInt32 = (30 : Int32) := by decide +kernel
theorem cb_32 : (Int8.ofInt (32)).toInt32 = (32 : Int32) := by decide +kernel
theorem cb_40 : (Int8.ofInt (40)).toInt32 = (40 : Int32) := by decide +kernel
theorem cb_43 : (Int8.ofInt (43)).toInt32 = (43 : Int32) := by decide +kernel
theorem cb_45 : (Int8.ofInt (45)).toInt32 = (45 : Int32) := by decide +kernel
theorem cb_47 : (Int8.ofInt (47)).toInt32 = (47 : Int32) := by decide +kernel
theorem cb_48 : (Int8.ofInt (48)).toInt32 = (48 : Int32) := by decide +kernel
theorem cb_50 : (Int8.ofInt (50)).toInt32 = (50 : Int32) := by decide +kernel
theorem cb_57 : (Int8.ofInt (57)).toInt32 = (57 : Int32) := by decide +kernel
theorem cb_59 : (Int8.ofInt (59)).toInt32 = (59 : Int32) := by decide +kernel
theorem cb_61 : (Int8.ofInt (61)).toInt32 = (61 : Int32) := by decide +kernel
theorem cb_63 : (Int8.ofInt (63)).toInt32 = (63 : Int32) := by decide +kernel
theorem cb_72 : (Int8.ofInt (72)).toInt32 = (72 : Int32) := by decide +kernel
theorem cb_95 : (Int8.ofInt (95)).toInt32 = (95 : Int32) := by decide +kernel
theorem cb_97 : (Int8.ofInt (97)).toInt32 = (97 : Int32) := by decide +kernel
theorem cb_100 : (Int8.ofInt (100)).toInt32 = (100 : Int32) := by decide +kernel
theorem cb_107 : (Int8.ofInt (107)).toInt32 = (107 : Int32) := by decide +kernel
theorem cb_112 : (Int8.ofInt (112)).toInt32 = (112 : Int32) := by decide +kernel
theorem cb_122 : (Int8.ofInt (122)).toInt32 = (122 : Int32) := by decide +kernel
theorem ci_m8 : Int32.ofInt (-8) = (-8 : Int32) := by decide +kernel
theorem ci_m1 : Int32.ofInt (-1) = (-1 : Int32) := by decide +kernel
theorem ci_0 : Int32.ofInt (0) = (0 : Int32) := by decide +kernel
theorem ci_1 : Int32.ofInt (1) = (1 : Int32) := by decide +kernel
theorem ci_2 : Int32.ofInt (2) = (2 : Int32) := by decide +kernel
theorem ci_3 : Int32.ofInt (3) = (3 : Int32) := by decide +kernel
theorem ci_4 : Int32.ofInt (4) = (4 : Int32) := by decide +kernel
theorem ci_5 : Int32.ofInt (5) = (5 : Int32) := by decide +kernel
theorem cl_0 : Int64.ofNat ((0 : Fin 2) : Nat) = (0 : Int64) := by decide +kernel
theorem cl_1 : Int64.ofNat ((1 : Fin 2) : Nat) = (1 : Int64) := by decide +kernel
theorem cw_24 : Int64.ofNat 24 = (24 : Int64) := by decide +kernel
theorem cw_48 : Int64.ofNat 48 = (48 : Int64) := by decide +kernel
theorem cw_50 : Int64.ofNat 50 = (50 : Int64) := by decide +kernel
theorem cw_57 : Int64.ofNat 57 = (57 : Int64) := by decide +kernel
theorem cw_97 : Int64.ofNat 97 = (97 : Int64) := by decide +kernel
theorem cw_122 : Int64.ofNat 122 = (122 : Int64) := by decide +kernel
theorem cw_150 : Int64.ofNat 150 = (150 : Int64) := by decide +kernel
theorem cw_500 : Int64.ofNat 500 = (500 : Int64) := by decide +kernel
theorem cw_999 : Int64.ofNat 999 = (999 : Int64) := by decide +kernel
theorem cw_1000 : Int64.ofNat 1000 = (1000 : Int64) := by decide +kernel
theorem cn_600 : Int32.ofNat 600 = (600 : Int32) := by decide +kernel
theorem cs_150 : (Int16.ofInt (150)).toInt32 = (150 : Int32) := by decide +kernel
theorem cs_300 : (Int16.ofInt (300)).toInt32 = (300 : Int32) := by decide +kernel
theorem cs_420 : (Int16.ofInt (420)).toInt32 = (420 : Int32) := by decide +kernel
theorem cs_500 : (Int16.ofInt (500)).toInt32 = (500 : Int32) := by decide +kernel
theorem cs_580 : (Int16.ofInt (580)).toInt32 = (580 : Int32) := by decide +kernel
theorem cs_600 : (Int16.ofInt (600)).toInt32 = (600 : Int32) := by decide +kernel
theorem cs_999 : (Int16.ofInt (999)).toInt32 = (999 : Int32) := by decide +kernel
theorem cs_1000 : (Int16.ofInt (1000)).toInt32 = (1000 : Int32) := by decide +kernel
theorem cs_1420 : (Int16.ofInt (1420)).toInt32 = (1420 : Int32) := by decide +kernel
theorem cs_2420 : (Int16.ofInt (2420)).toInt32 = (2420 : Int32) := by decide +kernel
theorem cs_9999 : (Int16.ofInt (9999)).toInt32 = (9999 : Int32) := by decide +kernel
theorem cs_19360 : (Int16.ofInt (19360)).toInt32 = (19360 : Int32) := by decide +kernel
theorem sh_0 : f_shape 0 = .inr (8, [1 + 2, 0, 2 + 2, 0, 3 + 2, 5 + 2, 10 + 2, 42 + 2, 44 + 2, 102 + 2, 103 + 2, 108 + 2, 121 + 2, 135 + 2, 148 + 2, 0]) := rfl
theorem sh_1 : f_shape 1 = .inl (.byte, 600, 0) := rfl
theorem sh_2 : f_shape 2 = .inl (.byte, 16, 0) := rfl
theorem sh_3 : f_shape 3 = .inr (7, [1, 0, 0, 0, 0, 0, 0, 0]) := rfl
theorem sh_4 : f_shape 4 = .inl (.byte, 0, 0) := rfl
theorem sh_5 : f_shape 5 = .inr (6, [0, 6 + 2, 7 + 2, 8 + 2, 0, 9 + 2, 0]) := rfl
theorem sh_6 : f_shape 6 = .inl (.int, 8, 0) := rfl
theorem sh_7 : f_shape 7 = .inl (.byte, 48, 0) := rfl
theorem sh_8 : f_shape 8 = .inl (.int, 8, 0) := rfl
theorem sh_9 : f_shape 9 = .inl (.int, 3, 0) := rfl
theorem sh_10 : f_shape 10 = .inr (5, [11 + 2, 0]) := rfl
theorem sh_11 : f_shape 11 = .inl (.array .int, 30, 3) := rfl
theorem sh_42 : f_shape 42 = .inr (0, [43 + 2, 0]) := rfl
theorem sh_43 : f_shape 43 = .inl (.int, 24, 0) := rfl
theorem sh_44 : f_shape 44 = .inr (2, [45 + 2, 0, 0]) := rfl
theorem sh_45 : f_shape 45 = .inl (.object RX3, 8, 2) := rfl
theorem sh_102 : f_shape 102 = .inr (4, [103 + 2, 108 + 2, 121 + 2, 128 + 2]) := rfl
theorem sh_103 : f_shape 103 = .inr (6, [0, 104 + 2, 105 + 2, 106 + 2, 0, 107 + 2, 0]) := rfl
theorem sh_104 : f_shape 104 = .inl (.int, 8, 0) := rfl
theorem sh_105 : f_shape 105 = .inl (.byte, 48, 0) := rfl
theorem sh_106 : f_shape 106 = .inl (.int, 8, 0) := rfl
theorem sh_107 : f_shape 107 = .inl (.int, 3, 0) := rfl
theorem sh_108 : f_shape 108 = .inr (1, [109 + 2, 110 + 2, 111 + 2, 112 + 2, 113 + 2, 114 + 2, 115 + 2, 116 + 2, 117 + 2, 118 + 2, 119 + 2, 120 + 2]) := rfl
theorem sh_109 : f_shape 109 = .inl (.int, 1000, 0) := rfl
theorem sh_110 : f_shape 110 = .inl (.int, 1000, 0) := rfl
theorem sh_111 : f_shape 111 = .inl (.boolean, 20, 0) := rfl
theorem sh_112 : f_shape 112 = .inl (.int, 20, 0) := rfl
theorem sh_113 : f_shape 113 = .inl (.int, 20, 0) := rfl
theorem sh_114 : f_shape 114 = .inl (.int, 20, 0) := rfl
theorem sh_115 : f_shape 115 = .inl (.int, 20, 0) := rfl
theorem sh_116 : f_shape 116 = .inl (.int, 20, 0) := rfl
theorem sh_117 : f_shape 117 = .inl (.int, 20, 0) := rfl
theorem sh_118 : f_shape 118 = .inl (.int, 20, 0) := rfl
theorem sh_119 : f_shape 119 = .inl (.int, 20, 0) := rfl
theorem sh_120 : f_shape 120 = .inl (.int, 20, 0) := rfl
theorem sh_121 : f_shape 121 = .inr (3, [0, 0, 122 + 2, 0, 123 + 2, 0, 124 + 2, 125 + 2, 126 + 2, 127 + 2, 0, 0, 0, 0, 0]) := rfl
theorem sh_122 : f_shape 122 = .inl (.int, 8, 0) := rfl
theorem sh_123 : f_shape 123 = .inl (.boolean, 20, 0) := rfl
theorem sh_124 : f_shape 124 = .inl (.int, 20, 0) := rfl
theorem sh_125 : f_shape 125 = .inl (.int, 20, 0) := rfl
theorem sh_126 : f_shape 126 = .inl (.int, 20, 0) := rfl
theorem sh_127 : f_shape 127 = .inl (.int, 20, 0) := rfl
theorem sh_128 : f_shape 128 = .inr (3, [0, 0, 129 + 2, 0, 130 + 2, 0, 131 + 2, 132 + 2, 133 + 2, 134 + 2, 0, 0, 0, 0, 0]) := rfl
theorem sh_129 : f_shape 129 = .inl (.int, 8, 0) := rfl
theorem sh_130 : f_shape 130 = .inl (.boolean, 20, 0) := rfl
theorem sh_131 : f_shape 131 = .inl (.int, 20, 0) := rfl
theorem sh_132 : f_shape 132 = .inl (.int, 20, 0) := rfl
theorem sh_133 : f_shape 133 = .inl (.int, 20, 0) := rfl
theorem sh_134 : f_shape 134 = .inl (.int, 20, 0) := rfl
theorem sh_135 : f_shape 135 = .inr (1, [136 + 2, 137 + 2, 138 + 2, 139 + 2, 140 + 2, 141 + 2, 142 + 2, 143 + 2, 144 + 2, 145 + 2, 146 + 2, 147 + 2]) := rfl
theorem sh_136 : f_shape 136 = .inl (.int, 1000, 0) := rfl
theorem sh_137 : f_shape 137 = .inl (.int, 1000, 0) := rfl
theorem sh_138 : f_shape 138 = .inl (.boolean, 20, 0) := rfl
theorem sh_139 : f_shape 139 = .inl (.int, 20, 0) := rfl
theorem sh_140 : f_shape 140 = .inl (.int, 20, 0) := rfl
theorem sh_141 : f_shape 141 = .inl (.int, 20, 0) := rfl
theorem sh_142 : f_shape 142 = .inl (.int, 20, 0) := rfl
theorem sh_143 : f_shape 143 = .inl (.int, 20, 0) := rfl
theorem sh_144 : f_shape 144 = .inl (.int, 20, 0) := rfl
theorem sh_145 : f_shape 145 = .inl (.int, 20, 0) := rfl
theorem sh_146 : f_shape 146 = .inl (.int, 20, 0) := rfl
theorem sh_147 : f_shape 147 = .inl (.int, 20, 0) := rfl
theorem sh_148 : f_shape 148 = .inr (3, [0, 0, 149 + 2, 0, 150 + 2, 0, 151 + 2, 152 + 2, 153 + 2, 154 + 2, 0, 0, 0, 0, 0]) := rfl
theorem sh_149 : f_shape 149 = .inl (.int, 8, 0) := rfl
theorem sh_150 : f_shape 150 = .inl (.boolean, 20, 0) := rfl
theorem sh_151 : f_shape 151 = .inl (.int, 20, 0) := rfl
theorem sh_152 : f_shape 152 = .inl (.int, 20, 0) := rfl
theorem sh_153 : f_shape 153 = .inl (.int, 20, 0) := rfl
theorem sh_154 : f_shape 154 = .inl (.int, 20, 0) := rfl
theorem sh_155 : f_shape 155 = .inr (9, [156 + 2, 157 + 2, 158 + 2, 159 + 2, 0, 0, 0, 160 + 2, 0, 161 + 2, 0, 0, 0, 0, 0, 0, 0, 0, 0, 162 + 2, 0, 163 + 2, 164 + 2, 165 + 2, 0]) := rfl
theorem sh_156 : f_shape 156 = .inl (.int, 2420, 0) := rfl
theorem sh_157 : f_shape 157 = .inl (.int, 2420, 0) := rfl
theorem sh_158 : f_shape 158 = .inl (.int, 2420, 0) := rfl
theorem sh_159 : f_shape 159 = .inl (.int, 19360, 0) := rfl
theorem sh_160 : f_shape 160 = .inl (.int, 6, 0) := rfl
theorem sh_161 : f_shape 161 = .inl (.byte, 600, 0) := rfl
theorem sh_162 : f_shape 162 = .inl (.int, 210, 0) := rfl
theorem sh_163 : f_shape 163 = .inl (.boolean, 20, 0) := rfl
theorem sh_164 : f_shape 164 = .inl (.int, 24, 0) := rfl
theorem sh_165 : f_shape 165 = .inl (.byte, 40, 0) := rfl
theorem sh_166 : f_shape 166 = .inl (.int, 3, 0) := rfl
theorem sh_167 : f_shape 167 = .inl (.long, 1, 1) := rfl
