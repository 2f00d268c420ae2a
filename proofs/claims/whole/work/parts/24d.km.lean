/-! Every instruction of every method checked against the words. -/
set_option maxRecDepth 100000 in
theorem km_146 : a_km a_MK md_146 [[], [], [], [], [], [], [60195], [], [], [], [], [], [], [], [70215], [80003], [], [], [], [], [], []] [] = true := by decide +kernel
set_option maxRecDepth 100000 in
theorem km_147 : a_km a_MK md_147 [[], [], [], [], [], [], [60195], [], [], [], [], [], [80046], [], [], [80046], [], [], [], [], [], [], []] [] = true := by decide +kernel
set_option maxRecDepth 100000 in
theorem km_148 : a_km a_MK md_148 [[], [60195], [], [], [], [], [80042], [], [], [], [], [], [], [], [60195], [], [70219], [], [], [], [], [], [], [], [60195], [], [70219], [], [], [], [], [], [60195], [], [70219], [], [], [], [], [], [60195], [], [70192], [], [], [], [], [], [60195], [], [], [], [], [], [], [], []] [] = true := by decide +kernel
set_option maxRecDepth 100000 in
theorem km_149 : a_km a_MK md_149 [[], [60195], [], [60184], [], [], [], [], [], [], [], [], [60195], [], [], [], [], [], [], [], [60195], [], [60184], [], [], [], []] [] = true := by decide +kernel
set_option maxRecDepth 100000 in
theorem km_150 : a_km a_MK md_150 [[], [], [], [], [], [], [], []] [] = true := by decide +kernel
set_option maxRecDepth 100000 in
theorem km_151 : a_km a_MK md_151 [[], [], [], [], [], [], [], [], [], [], [], []] [] = true := by decide +kernel
set_option maxRecDepth 100000 in
theorem km_152 : a_km a_MK md_152 [[], [60195], [], [], [], [], [], [60195], [], [60184], [], [], [], [], [], [], [], [], []] [] = true := by decide +kernel
set_option maxRecDepth 100000 in
theorem km_153 : a_km a_MK md_153 [[], [60195], [], [], [70192], [], [], [], [], [], [], [], [60195], [], [], [], [], [], [], [], [], [60195], [], [], [], [], [], [], [60195], [], [], [], [], [], [], [60195], [], [], [], [], [], [], [60195], [], [], [], [], [], [], [60195], [], [], [], [], [], []] [] = true := by decide +kernel
set_option maxRecDepth 100000 in
theorem km_154 : a_km a_MK md_154 [[], [], [], [], [], [], [80072], [], [60195], [], [], [70192], [], [], [60195], [], [], [], [], [], [], [60195], [], [], [], [], [], [], [60195], [], [], [], [], [], [80058], [], []] [] = true := by decide +kernel
set_option maxRecDepth 100000 in
theorem km_155 : a_km a_MK md_155 [[], [], [], [], [], [], [80072], [], [60195], [], [], [70192], [], [], [60195], [], [], [], [], [], [], [60195], [], [], [], [], [], [], [80061], [], []] [] = true := by decide +kernel
set_option maxRecDepth 100000 in
theorem km_156 : a_km a_MK md_156 [[], [60195], [], [], [], [], [60195], [], [], [], [], [], [], [], [], [70203], [], []] [] = true := by decide +kernel
set_option maxRecDepth 100000 in
theorem km_157 : a_km a_MK md_157 [[], [60214], [], [], [], [], [], [], [60214], [], [], [], [], [], [], [60214], [], [], [], [], [], [], [60214], [], [], [], [], [], [], [60214], [], [], [], [], [], [], [], [], [], [], [], [], [80058], [], [], [], [], [60214], [], [], [], [], [80061], [], [], [], [60195], [], [], [], [], [], [], [80064], [], [], [], [], [], [], [], [], [], [], [], [60214], [], [], [], [], [], [60214], [], [], [], [], [80068], [], [], [], [], [], [], [], [60214], [], [], [], [], [80076], [], [80080], [], [], [], [], []] [] = true := by decide +kernel
set_option maxRecDepth 100000 in
theorem km_158 : a_km a_MK md_158 [[], [], [], [], [], [60214], [], [], [], [], [], [], [60214], [], [], [], [], [], [70172], [], [], [], [80022], [], [], [], [80026], [], [], [], [80038], [], [], [], [], [], [], [], [], [60214], [], [], [], [], [80050], [], [], [], [], [], [], [], [80054], []] [] = true := by decide +kernel
set_option maxRecDepth 100000 in
theorem km_159 : a_km a_MK md_159 [[], [], [60201], [], [], [60215], [], [70066], [], [60212], [], [], [60210], [], [], [70142], [], [], [70130], [], [60212], [], [], [], [], [70164], [], [], [], [], [60215], [], [], [], [70168], [], [], [], [], []] [] = true := by decide +kernel
set_option maxRecDepth 100000 in
theorem km_160 : a_km a_MK md_160 [[], [30041], [10047], []] [] = true := by decide +kernel
set_option maxRecDepth 100000 in
theorem km_161 : a_km a_MK md_161 [[], [], [60201], [], [60206], []] [] = true := by decide +kernel
set_option maxRecDepth 100000 in
theorem km_162 : a_km a_MK md_162 [[], [30041], [10049], []] [] = true := by decide +kernel
set_option maxRecDepth 100000 in
theorem km_163 : a_km a_MK md_163 [[], [], [60201], [], [60207], []] [] = true := by decide +kernel
set_option maxRecDepth 100000 in
theorem km_164 : a_km a_MK md_164 [[], [30049], [10151], []] [] = true := by decide +kernel
set_option maxRecDepth 100000 in
theorem km_165 : a_km a_MK md_165 [[], [], [60201], [], [60195], [], [], []] [] = true := by decide +kernel
set_option maxRecDepth 100000 in
theorem km_166 : a_km a_MK md_166 [[], [], [80088], []] [] = true := by decide +kernel
set_option maxRecDepth 100000 in
theorem km_167 : a_km a_MK md_167 [[], [30049], [10155], []] [] = true := by decide +kernel
set_option maxRecDepth 100000 in
theorem km_168 : a_km a_MK md_168 [[], [], [80088], []] [] = true := by decide +kernel
set_option maxRecDepth 100000 in
theorem km_169 : a_km a_MK md_169 [[], [30047], [10076], []] [] = true := by decide +kernel
set_option maxRecDepth 100000 in
theorem km_170 : a_km a_MK md_170 [[], [], [80088], []] [] = true := by decide +kernel
set_option maxRecDepth 100000 in
theorem km_171 : a_km a_MK md_171 [[], [], [], [], [], [40217, 10020, 370, 372], []] [] = true := by decide +kernel
set_option maxRecDepth 100000 in
theorem km_172 : a_km a_MK md_172 [[], [], [30047], [10076], [40214], []] [] = true := by decide +kernel
set_option maxRecDepth 100000 in
theorem km_173 : a_km a_MK md_173 [[], [], [40210], [], [], [], [], [30047], [10078], [], [], [], [], [], [], [30047], [], [], [50045], []] [] = true := by decide +kernel
set_option maxRecDepth 100000 in
theorem km_174 : a_km a_MK md_174 [[], [], [], [], [], [40206], [], [], [], [], [], [], [], []] [(40205, 40219)] = true := by decide +kernel
set_option maxRecDepth 100000 in
theorem km_175 : a_km a_MK md_175 [[], [], [], [], [60195], [], [], [], [], [], [70047], []] [] = true := by decide +kernel
set_option maxRecDepth 100000 in
theorem km_176 : a_km a_MK md_176 [[], [], [], [], [], [], [], [], [], [], [], [], [], [], [60201], [], [60201], [], [], [], [], []] [] = true := by decide +kernel
set_option maxRecDepth 100000 in
theorem km_177 : a_km a_MK md_177 [[], [], [], [80104], [], [], [80108], [], [], [], [], [], [], [], [60195], [], [60184], [], [], [], [], [70047], [], [], [60195], [], [60184], [], [], [], [], [], [], [], []] [] = true := by decide +kernel
set_option maxRecDepth 100000 in
theorem km_178 : a_km a_MK md_178 [[], [60201], []] [] = true := by decide +kernel
set_option maxRecDepth 100000 in
theorem km_179 : a_km a_MK md_179 [[], [], [40210], [], [30049], [10160], [], [], []] [] = true := by decide +kernel
set_option maxRecDepth 100000 in
theorem km_180 : a_km a_MK md_180 [[], [], [], [], [50049], [], [], [], [], [], [], [], []] [(40205, 40219)] = true := by decide +kernel
set_option maxRecDepth 100000 in
theorem km_181 : a_km a_MK md_181 [[], [], [], [80104], [], [], [80108], [], [], [60195], [], [60184], [], [], [], [], [], []] [] = true := by decide +kernel
set_option maxRecDepth 100000 in
theorem km_182 : a_km a_MK md_182 [[], [], [40210], [], [], [], [], [], [], [30049], [10165], [], [], [30048], [20032], [], [], [], [], [], [30046], [], [30049], [], [50060], [], [], [], [30048], [], [50061], [], [], [], [], [], []] [] = true := by decide +kernel
set_option maxRecDepth 100000 in
theorem km_183 : a_km a_MK md_183 [[], [], [], [], [50056], [], [], [], [], [], [], [], []] [(40205, 40219)] = true := by decide +kernel
set_option maxRecDepth 100000 in
theorem km_184 : a_km a_MK md_184 [[], [60195], [], [70192], [], [], [], [], [], [], [], [], []] [] = true := by decide +kernel
set_option maxRecDepth 100000 in
theorem km_185 : a_km a_MK md_185 [[], [], [], [80104], [], [], [80108], [], [], [], [], [], [], [], [], [], [60195], [], [], [], [], [], [], [80120], [], [], [], [], [60195], [], [], [70184], [], [], [], [], [], [], [], [], [], [60195], [], [70192], [], [], [], [], [], [], [], [], [], [], []] [] = true := by decide +kernel
set_option maxRecDepth 100000 in
theorem km_186 : a_km a_MK md_186 [[], [], [30049], [10151], [40214], []] [] = true := by decide +kernel
set_option maxRecDepth 100000 in
theorem km_187 : a_km a_MK md_187 [[], [], [50069], [], [30048], [20020], [], [], []] [] = true := by decide +kernel
set_option maxRecDepth 100000 in
theorem km_188 : a_km a_MK md_188 [[], [], [], [], [50065], [], [], [], [], [], [], [], []] [(40205, 40219)] = true := by decide +kernel
set_option maxRecDepth 100000 in
theorem km_189 : a_km a_MK md_189 [[], [], [], [], [60195], [], [], [], [], [], [70047], []] [] = true := by decide +kernel
set_option maxRecDepth 100000 in
theorem km_190 : a_km a_MK md_190 [[], [], [], [80128], [], [], [80108], [], [], [60195], [], [], [], [], [], [], []] [] = true := by decide +kernel
set_option maxRecDepth 100000 in
theorem km_191 : a_km a_MK md_191 [[], [], [50069], [], [30048], [20024], [], [], []] [] = true := by decide +kernel
set_option maxRecDepth 100000 in
theorem km_192 : a_km a_MK md_192 [[], [], [], [], [50076], [], [], [], [], [], [], [], []] [(40205, 40219)] = true := by decide +kernel
set_option maxRecDepth 100000 in
theorem km_193 : a_km a_MK md_193 [[], [], [], [80128], [], [], [80108], [], [], [60195], [], [], [], [], [], [], []] [] = true := by decide +kernel
set_option maxRecDepth 100000 in
theorem km_194 : a_km a_MK md_194 [[], [30049], [10165], []] [] = true := by decide +kernel
set_option maxRecDepth 100000 in
theorem km_195 : a_km a_MK md_195 [[], [], [80088], []] [] = true := by decide +kernel
set_option maxRecDepth 100000 in
theorem km_196 : a_km a_MK md_196 [[], [], [30049], [10165], [40214], []] [] = true := by decide +kernel
set_option maxRecDepth 100000 in
theorem km_197 : a_km a_MK md_197 [[], [], [50087], [], [30048], [20029], [], [], []] [] = true := by decide +kernel
set_option maxRecDepth 100000 in
theorem km_198 : a_km a_MK md_198 [[], [], [], [], [50083], [], [], [], [], [], [], [], [], [], [], []] [(40205, 40219)] = true := by decide +kernel
set_option maxRecDepth 100000 in
theorem km_199 : a_km a_MK md_199 [[], [], [], [80022], [], [], [80108], [], [], [60195], [], [70192], [], [], [], [], [], [], [], []] [] = true := by decide +kernel
set_option maxRecDepth 100000 in
theorem km_200 : a_km a_MK md_200 [[], [], [50087], [], [30048], [20032], [], [], []] [] = true := by decide +kernel
set_option maxRecDepth 100000 in
theorem km_201 : a_km a_MK md_201 [[], [], [], [], [50094], [], [], [], [], [], [], [], []] [(40205, 40219)] = true := by decide +kernel
set_option maxRecDepth 100000 in
theorem km_202 : a_km a_MK md_202 [[], [], [], [80022], [], [], [80108], [], [], [60195], [], [70192], [], [], [], [], [], []] [] = true := by decide +kernel
set_option maxRecDepth 100000 in
theorem km_203 : a_km a_MK md_203 [[], [], [], [80148], []] [] = true := by decide +kernel
set_option maxRecDepth 100000 in
theorem km_204 : a_km a_MK md_204 [[], [], [50087], [], [30048], [20036], [], [], []] [] = true := by decide +kernel
set_option maxRecDepth 100000 in
theorem km_205 : a_km a_MK md_205 [[], [], [], [], [50101], [], [], [], [], [], [], [], []] [(40205, 40219)] = true := by decide +kernel
set_option maxRecDepth 100000 in
theorem km_206 : a_km a_MK md_206 [[], [], [], [80148], []] [] = true := by decide +kernel
set_option maxRecDepth 100000 in
theorem km_207 : a_km a_MK md_207 [[], [], [50087], [], [30048], [20039], [], [], []] [] = true := by decide +kernel
set_option maxRecDepth 100000 in
theorem km_208 : a_km a_MK md_208 [[], [], [], [], [50108], [], [], [], [], [], [], [], []] [(40205, 40219)] = true := by decide +kernel
set_option maxRecDepth 100000 in
theorem km_209 : a_km a_MK md_209 [[], [], [], [80148], []] [] = true := by decide +kernel
set_option maxRecDepth 100000 in
theorem km_210 : a_km a_MK md_210 [[], [], [50087], [], [30048], [20042], [], [], []] [] = true := by decide +kernel
set_option maxRecDepth 100000 in
theorem km_211 : a_km a_MK md_211 [[], [], [], [], [50115], [], [], [], [], [], [], [], []] [(40205, 40219)] = true := by decide +kernel
set_option maxRecDepth 100000 in
theorem km_212 : a_km a_MK md_212 [[], [], [], [80148], []] [] = true := by decide +kernel
set_option maxRecDepth 100000 in
theorem km_213 : a_km a_MK md_213 [[], [], [50087], [], [30048], [], [50061], []] [] = true := by decide +kernel
set_option maxRecDepth 100000 in
theorem km_214 : a_km a_MK md_214 [[], [], [], [], [50122], [], [], [], [], [], [], [], []] [(40205, 40219)] = true := by decide +kernel
set_option maxRecDepth 100000 in
theorem km_215 : a_km a_MK md_215 [[], [], [], [80148], []] [] = true := by decide +kernel
set_option maxRecDepth 100000 in
theorem km_216 : a_km a_MK md_216 [[], [], [50087], [], [30046], [], [30049], [], [50060], []] [] = true := by decide +kernel
set_option maxRecDepth 100000 in
theorem km_217 : a_km a_MK md_217 [[], [], [], [], [50129], [], [], [], [], [], [], [], [], [], [], []] [(40205, 40219)] = true := by decide +kernel
set_option maxRecDepth 100000 in
theorem km_218 : a_km a_MK md_218 [[], [], [], [80022], [], [], [80108], [], [], [], [], [60195], [], [], [70184], [], [], [], [], []] [] = true := by decide +kernel
set_option maxRecDepth 100000 in
theorem km_219 : a_km a_MK md_219 [[], [], [50087], [], [30049], [10168], [], [], []] [] = true := by decide +kernel
set_option maxRecDepth 100000 in
theorem km_220 : a_km a_MK md_220 [[], [], [], [], [50136], [], [], [], [], [], [], [], [], [], [], []] [(40205, 40219)] = true := by decide +kernel
set_option maxRecDepth 100000 in
theorem km_221 : a_km a_MK md_221 [[], [], [], [80148], [], [], [], [], [], []] [] = true := by decide +kernel
set_option maxRecDepth 100000 in
theorem km_222 : a_km a_MK md_222 [[], [], [50087], [], [30048], [], [], [30049], [10151], [50147], []] [] = true := by decide +kernel
set_option maxRecDepth 100000 in
theorem km_223 : a_km a_MK md_223 [[], [], [], [], [50143], [], [], [], [], [], [], [], []] [(40205, 40219)] = true := by decide +kernel
set_option maxRecDepth 100000 in
theorem km_224 : a_km a_MK md_224 [[], [], [], [80022], [], [], [80108], [], [], [], [70230], [], [], []] [] = true := by decide +kernel
set_option maxRecDepth 100000 in
theorem km_225 : a_km a_MK md_225 [[], [], [50087], [], [30046], [], [50155], []] [] = true := by decide +kernel
set_option maxRecDepth 100000 in
theorem km_226 : a_km a_MK md_226 [[], [], [], [], [50151], [], [], [], [], [], [], [], []] [(40205, 40219)] = true := by decide +kernel
set_option maxRecDepth 100000 in
theorem km_227 : a_km a_MK md_227 [[], [], [], [80022], [], [], [80108], [], [], [], [80026], [], [], []] [] = true := by decide +kernel
set_option maxRecDepth 100000 in
theorem km_228 : a_km a_MK md_228 [[], [30049], [10172], []] [] = true := by decide +kernel
set_option maxRecDepth 100000 in
theorem km_229 : a_km a_MK md_229 [[], [], [80088], []] [] = true := by decide +kernel
set_option maxRecDepth 100000 in
theorem km_230 : a_km a_MK md_230 [[], [], [30049], [10172], [40214], []] [] = true := by decide +kernel
set_option maxRecDepth 100000 in
theorem km_231 : a_km a_MK md_231 [[], [], [50163], [], [30048], [20054], [], [], []] [] = true := by decide +kernel
set_option maxRecDepth 100000 in
theorem km_232 : a_km a_MK md_232 [[], [], [], [], [50159], [], [], [], [], [], [], [], []] [(40205, 40219)] = true := by decide +kernel
set_option maxRecDepth 100000 in
theorem km_233 : a_km a_MK md_233 [[], [], [], [], [60195], [], [], [], [], [], [70047], []] [] = true := by decide +kernel
set_option maxRecDepth 100000 in
theorem km_234 : a_km a_MK md_234 [[], [], [], [80196], [], [], [80108], [], [], [60195], [], [70219], [], [], [], [], [], []] [] = true := by decide +kernel
set_option maxRecDepth 100000 in
theorem km_235 : a_km a_MK md_235 [[], [], [], [80192], []] [] = true := by decide +kernel
set_option maxRecDepth 100000 in
theorem km_236 : a_km a_MK md_236 [[], [], [50163], [], [30048], [20057], [], [], []] [] = true := by decide +kernel
set_option maxRecDepth 100000 in
theorem km_237 : a_km a_MK md_237 [[], [], [], [], [50170], [], [], [], [], [], [], [], []] [(40205, 40219)] = true := by decide +kernel
set_option maxRecDepth 100000 in
theorem km_238 : a_km a_MK md_238 [[], [], [], [80192], []] [] = true := by decide +kernel
set_option maxRecDepth 100000 in
theorem km_239 : a_km a_MK md_239 [[], [], [50163], [], [30049], [10176], [], [], [], [], [], [], []] [] = true := by decide +kernel
set_option maxRecDepth 100000 in
theorem km_240 : a_km a_MK md_240 [[], [], [], [], [50177], [], [], [], [], [], [], [], [], [], [], []] [(40205, 40219)] = true := by decide +kernel
set_option maxRecDepth 100000 in
theorem km_241 : a_km a_MK md_241 [[], [], [], [80196], [], [], [80108], [], [], [60195], [], [70219], [], [], [], [], [], [], [], [], []] [] = true := by decide +kernel
set_option maxRecDepth 100000 in
theorem km_242 : a_km a_MK md_242 [[], [], [], [80208], []] [] = true := by decide +kernel
set_option maxRecDepth 100000 in
theorem km_243 : a_km a_MK md_243 [[], [], [50163], [], [30049], [10176], [], [], [], [], [], [], [], []] [] = true := by decide +kernel
set_option maxRecDepth 100000 in
theorem km_244 : a_km a_MK md_244 [[], [], [], [], [50184], [], [], [], [], [], [], [], [], [], [], []] [(40205, 40219)] = true := by decide +kernel
set_option maxRecDepth 100000 in
theorem km_245 : a_km a_MK md_245 [[], [], [], [80208], []] [] = true := by decide +kernel
set_option maxRecDepth 100000 in
theorem km_246 : a_km a_MK md_246 [[], [], [50163], [], [30049], [10176], [], [], [], [], [], [], [], []] [] = true := by decide +kernel
