/-! Every instruction of every method checked against the words. -/
set_option maxRecDepth 100000 in
theorem km_247 : a_km a_MK md_247 [[], [], [], [], [50191], [], [], [], [], [], [], [], [], [], [], []] [(40205, 40219)] = true := by decide +kernel
set_option maxRecDepth 100000 in
theorem km_248 : a_km a_MK md_248 [[], [], [], [80208], []] [] = true := by decide +kernel
set_option maxRecDepth 100000 in
theorem km_249 : a_km a_MK md_249 [[], [], [50163], [], [30049], [10182], [], [], []] [] = true := by decide +kernel
set_option maxRecDepth 100000 in
theorem km_250 : a_km a_MK md_250 [[], [], [], [], [50198], [], [], [], [], [], [], [], []] [(40205, 40219)] = true := by decide +kernel
set_option maxRecDepth 100000 in
theorem km_251 : a_km a_MK md_251 [[], [], [], [80192], []] [] = true := by decide +kernel
set_option maxRecDepth 100000 in
theorem km_252 : a_km a_MK md_252 [[], [30047], [10084], []] [] = true := by decide +kernel
set_option maxRecDepth 100000 in
theorem km_253 : a_km a_MK md_253 [[], [], [80088], []] [] = true := by decide +kernel
set_option maxRecDepth 100000 in
theorem km_254 : a_km a_MK md_254 [[], [], [30047], [10084], [40214], []] [] = true := by decide +kernel
set_option maxRecDepth 100000 in
theorem km_255 : a_km a_MK md_255 [[], [], [50209], [], [30047], [10087], [], [], []] [] = true := by decide +kernel
set_option maxRecDepth 100000 in
theorem km_256 : a_km a_MK md_256 [[], [], [], [], [50205], [], [], [], [], [], [], [], []] [(40205, 40219)] = true := by decide +kernel
set_option maxRecDepth 100000 in
theorem km_257 : a_km a_MK md_257 [[], [], [], [], [60195], [], [], [], [], [], [70047], []] [] = true := by decide +kernel
set_option maxRecDepth 100000 in
theorem km_258 : a_km a_MK md_258 [[], [], [], [80232], [], [], [80108], [], [], [60195], [], [], [], [], [], [], []] [] = true := by decide +kernel
set_option maxRecDepth 100000 in
theorem km_259 : a_km a_MK md_259 [[], [], [50209], [], [30046], [], [50220], []] [] = true := by decide +kernel
set_option maxRecDepth 100000 in
theorem km_260 : a_km a_MK md_260 [[], [], [], [], [50216], [], [], [], [], [], [], [], []] [(40205, 40219)] = true := by decide +kernel
set_option maxRecDepth 100000 in
theorem km_261 : a_km a_MK md_261 [[], [], [], [80232], [], [], [80108], [], [], [], [80046], [], [], []] [] = true := by decide +kernel
set_option maxRecDepth 100000 in
theorem km_262 : a_km a_MK md_262 [[], [30046], [40096], []] [] = true := by decide +kernel
set_option maxRecDepth 100000 in
theorem km_263 : a_km a_MK md_263 [[], [], [60201], [], [80042], []] [] = true := by decide +kernel
set_option maxRecDepth 100000 in
theorem km_264 : a_km a_MK md_264 [[], [30049], [10193], [], [30049], [10189], [], [], [30049], [10185], [], [30049], [10193], [], [], [], []] [] = true := by decide +kernel
set_option maxRecDepth 100000 in
theorem km_265 : a_km a_MK md_265 [[], [], [60201], [], [80014], []] [] = true := by decide +kernel
set_option maxRecDepth 100000 in
theorem km_266 : a_km a_MK md_266 [[], [], [], [30049], [10193], [], [], [], [30049], [10189], [], [], [], [30049], [10182], [], [30049], [10185], [], [], [], [], [], [], [], [], []] [] = true := by decide +kernel
set_option maxRecDepth 100000 in
theorem km_267 : a_km a_MK md_267 [[], [], [], [], [], [], [60195], [], [], [], [], [], [60195], [], [70219], [], [], [], [], [], [], [60195], [], [70219], [], [], [], [], [], [], [], [], [], [], []] [] = true := by decide +kernel
set_option maxRecDepth 100000 in
theorem km_268 : a_km a_MK md_268 [[], [], [60201], [], [], [90012], []] [] = true := by decide +kernel
set_option maxRecDepth 100000 in
theorem km_269 : a_km a_MK md_269 [[], [30049], [10195], []] [] = true := by decide +kernel
set_option maxRecDepth 100000 in
theorem km_270 : a_km a_MK md_270 [[], [], [80088], []] [] = true := by decide +kernel
set_option maxRecDepth 100000 in
theorem km_271 : a_km a_MK md_271 [[], [30049], [10198], []] [] = true := by decide +kernel
set_option maxRecDepth 100000 in
theorem km_272 : a_km a_MK md_272 [[], [], [80088], []] [] = true := by decide +kernel
set_option maxRecDepth 100000 in
theorem km_273 : a_km a_MK md_273 [[], [30049], [10201], []] [] = true := by decide +kernel
set_option maxRecDepth 100000 in
theorem km_274 : a_km a_MK md_274 [[], [], [80088], []] [] = true := by decide +kernel
set_option maxRecDepth 100000 in
theorem km_275 : a_km a_MK md_275 [[], [], [], [], [], [], [20091], [10192], [], [], [20091], [10184], [], [], [], [], [], [30229], [], [], [], [], [20091], [10181], [], [], [], [], [], [], [], []] [] = true := by decide +kernel
set_option maxRecDepth 100000 in
theorem km_276 : a_km a_MK md_276 [[], [], [], [], [], [], [], [], [30047], [10076], [], [], [30046], [], [40121], [], [], [], [], [], [], [], [], [], [], [], []] [] = true := by decide +kernel
set_option maxRecDepth 100000 in
theorem km_277 : a_km a_MK md_277 [[], [], [60201], [], [], [], [], [], [], [60195], [], [], [], [], [60195], [], [60184], [], [], [], [], [60195], [], [60184], [], [], [], [], [], [], [], [], [], []] [] = true := by decide +kernel
set_option maxRecDepth 100000 in
theorem km_278 : a_km a_MK md_278 [[], [], [], [], [], [], [30049], [10165], [], [], [30049], [10168], [], [], [], [], [], [], [], []] [] = true := by decide +kernel
set_option maxRecDepth 100000 in
theorem km_279 : a_km a_MK md_279 [[], [], [60201], [], [], [], [], [], [], [60195], [], [], [], [], [], [], [70188], [80003], [], [], [], [], [], []] [] = true := by decide +kernel
set_option maxRecDepth 100000 in
theorem km_280 : a_km a_MK md_280 [[], [30049], [10195], [], [], [], [], [30049], [10198], [], [], [30049], [10195], [], [], []] [] = true := by decide +kernel
set_option maxRecDepth 100000 in
theorem km_281 : a_km a_MK md_281 [[], [], [60201], [], [60195], [], [], [], [], [], [], [60195], [], [], [], [], [60195], [], [], [], [], []] [] = true := by decide +kernel
set_option maxRecDepth 100000 in
theorem km_282 : a_km a_MK md_282 [[], [], [], [], [], [], [30049], [10172], [], [], [30049], [10176], [], [], [], [], [], [], [], [], [], [], [], [30049], [10189], [], [], [], [], []] [] = true := by decide +kernel
set_option maxRecDepth 100000 in
theorem km_283 : a_km a_MK md_283 [[], [], [], [], [], [], [60195], [], [], [], [], [], [60195], [], [70219], [], [], [], [], [], [], [], [], [80003], [], [], [], [], [], []] [] = true := by decide +kernel
set_option maxRecDepth 100000 in
theorem km_284 : a_km a_MK md_284 [[], [], [60201], [], [], [90044], [], [], [90044], [], [], [], [60195], [], [], [], [], [], [], [], [], [60195], [], [], [], [], []] [] = true := by decide +kernel
set_option maxRecDepth 100000 in
theorem km_285 : a_km a_MK md_285 [[], [], [], [], [], [], [50232, 10021, 375, 377], []] [] = true := by decide +kernel
set_option maxRecDepth 100000 in
theorem km_286 : a_km a_MK md_286 [[], [], [], [50229], [], [], [], [50229], [], [], [60008], []] [] = true := by decide +kernel
set_option maxRecDepth 100000 in
theorem km_287 : a_km a_MK md_287 [[], [], [], [], [], [50225], [], [], [], [], [], [], [], []] [(50224, 50234)] = true := by decide +kernel
set_option maxRecDepth 100000 in
theorem km_288 : a_km a_MK md_288 [[], [], [], [90052], [70047], [], [], [], [], [90053], [70047], [], [], [], [], [], [], [], [], [], [80108], [], [], [], [80058], [], [], []] [] = true := by decide +kernel
set_option maxRecDepth 100000 in
theorem km_289 : a_km a_MK md_289 [[], [], [], [50229], [], [], [], [50229], [], [], [], [50229], [], [], [], [60016], []] [] = true := by decide +kernel
set_option maxRecDepth 100000 in
theorem km_290 : a_km a_MK md_290 [[], [], [], [], [], [], [60012], [], [], [], [], [], [], [], []] [(50224, 50234)] = true := by decide +kernel
set_option maxRecDepth 100000 in
theorem km_291 : a_km a_MK md_291 [[], [], [], [90052], [70047], [], [], [], [], [90053], [70047], [], [], [], [], [90058], [70047], [], [], [], [], [], [], [], [], [], [80108], [], [], [], [], [80061], [], [], []] [] = true := by decide +kernel
set_option maxRecDepth 100000 in
theorem km_292 : a_km a_MK md_292 [[], [20091], [10175], [], [], [], [], [], [], [20088], [20056], [], [], [], [], [20085], [10086], [], [], [30201], [], [], [], [], [], [], [], [], [], [], [], [30193], [], [], [], [], [20091], [10178], [], [], [], [], [], [], [], [], []] [] = true := by decide +kernel
set_option maxRecDepth 100000 in
theorem km_293 : a_km a_MK md_293 [[], [], [50163], [], [30046], [], [60024], []] [] = true := by decide +kernel
set_option maxRecDepth 100000 in
theorem km_294 : a_km a_MK md_294 [[], [], [], [], [60020], [], [], [], [], [], [], [], []] [(40205, 40219)] = true := by decide +kernel
set_option maxRecDepth 100000 in
theorem km_295 : a_km a_MK md_295 [[], [], [], [80196], [], [], [80108], [], [], [], [], [60195], [], [70219], [], [], [], [], [], [], [], [60195], [], [70219], [], [], [], [], [], [], [], [], [], [], [], [], [], [], [], [70215], [], [], [], [70222], [], [60195], [], [70219], [], [], [], [], [], [], [], [], [], [], [], []] [] = true := by decide +kernel
set_option maxRecDepth 100000 in
theorem km_296 : a_km a_MK md_296 [[], [20091], [10167], [], [], [], [], [], [], [20095], [], [20091], [60039], [], [20088], [], [30167], [], [], [20091], [10149], [], [], [], [], [], [20095], [], [10149], [], [], [20095], [30159], [], [20095], [10167], [], [], [], [], [], [], [], [20091], [10149], [], [], [], [], [], []] [] = true := by decide +kernel
set_option maxRecDepth 100000 in
theorem km_297 : a_km a_MK md_297 [[], [], [50087], [], [30046], [], [60035], []] [] = true := by decide +kernel
set_option maxRecDepth 100000 in
theorem km_298 : a_km a_MK md_298 [[], [], [], [], [60031], [], [], [], [], [], [], [], []] [(40205, 40219)] = true := by decide +kernel
set_option maxRecDepth 100000 in
theorem km_299 : a_km a_MK md_299 [[], [], [], [], [], [], [60195], [], [], [], [], [], [], [80120], [], [], [60216], [], [], [], [], [], [], [70184], [], [], [], [60195], [], [70192], [], [], [], [], [], [], [], [], [], [], [], [], [], [60216], [], [], [], [], [], [], []] [] = true := by decide +kernel
set_option maxRecDepth 100000 in
theorem km_300 : a_km a_MK md_300 [[], [60195], [], [70192], [], [], [], [], [], [60195], [], [60184], [], [], [], [], [], [], [], [], [], [], [60216], [], [], [], [], [], [], [60195], [], [], [], [], [], [], [70195], [], [], [], [], [], [], [], [], [], [], [], [], [90071], [], [], [60216], [], [], [], [], [], [], [], [60195], [], [], [], [], [], [], [], []] [] = true := by decide +kernel
set_option maxRecDepth 100000 in
theorem km_301 : a_km a_MK md_301 [[], [], [], [80022], [], [], [80108], [], [], [], [], [], [70188], [], [], [], [], [], [90067], []] [] = true := by decide +kernel
set_option maxRecDepth 100000 in
theorem km_302 : a_km a_MK md_302 [[], [10088], [], [], [], [], [], [10074], [], [], [], [10080], [], [], [], [], [], [], [], []] [] = true := by decide +kernel
set_option maxRecDepth 100000 in
theorem km_303 : a_km a_MK md_303 [[], [10154], [], [], [], [], [], [10075], [], [], [], [10158], [], [], [], [], [], [], [], [], [40148], [], [10200], [], [], [], [], [], []] [] = true := by decide +kernel
set_option maxRecDepth 100000 in
theorem km_304 : a_km a_MK md_304 [[], [], [], [], [], [], [], [], [10170], [], [], [10174], [], [], [], [], [], [], [], [], [], [], [], [], [], [], [], [], [], [], [], [], [], [], [], [], [10180], [], [], [], [], [], [], [], [], [], [], [], [], [], [], [], [], [], [], [], [], [], [], [], [], [], [], [], [], [], [], [10187], [], [], [], [10191], [], [], [], [], []] [] = true := by decide +kernel
set_option maxRecDepth 100000 in
theorem km_305 : a_km a_MK md_305 [[], [], [], [], [20093], [10170], [], [], [], [], [], [], [], [], [20090], [20052], [], [], [], [20090], [20052], [], [], [40158], [], [], [], [], [], [], [], [], []] [] = true := by decide +kernel
set_option maxRecDepth 100000 in
theorem km_306 : a_km a_MK md_306 [[], [10129], [], [], [], [], [10128], [], [], [], [], [], [], [], [10128], [], [], [10128], [], [], [], [], [], [], [], [], [10128], [], [], [], [], [], [10129], [], [], [10129], []] [] = true := by decide +kernel
set_option maxRecDepth 100000 in
theorem km_307 : a_km a_MK md_307 [[], [], [], [], [], [], [10129], [], [], [], [10128], [], [], [], [], [], [], [], []] [] = true := by decide +kernel
set_option maxRecDepth 100000 in
theorem km_308 : a_km a_MK md_308 [[], [], [], [], [10129], [], [], [10128], [], [], [], [], [], [], [], []] [] = true := by decide +kernel
set_option maxRecDepth 100000 in
theorem km_309 : a_km a_MK md_309 [[], [], [10129], [], [], [], [40167], [40168], [], [], [20035], [], [], [], [], [], [], [], [10129], [], [], [], [], [20028], [], [], [], [], [20019], [], [], [], [], [20023], [], [], [40169], [], [], [], [20028], [], [], [], [], [], [], [40173], [40177], [], [], [], [20045], [], [], [40178], [], [], [10129], [], [], [20048], [], [], [], [], [40178], [], [], [], [], [], [], [], [40182], []] [] = true := by decide +kernel
set_option maxRecDepth 100000 in
theorem km_310 : a_km a_MK md_310 [[], [], [], [], [10163], [], [], [], [], [], [10150], [40163], [], [], [], [10150], [40183], [], [], [], [], [], [], []] [] = true := by decide +kernel
set_option maxRecDepth 100000 in
theorem km_311 : a_km a_MK md_311 [[], [], [], [], [], [], [20087], [10075], [], [], [], [], [40187], [], [], [], [], [], [], [20093], [10197], [], [], [], [], []] [] = true := by decide +kernel
set_option maxRecDepth 100000 in
theorem km_312 : a_km a_MK md_312 [[], [20087], [], [20093], [40145], [], [], [20093], [40152], [], [], [40155], [], [], [], [20090], [], [20093], [40159], [], [], [40184], [], [], [], [], []] [] = true := by decide +kernel
set_option maxRecDepth 100000 in
theorem km_313 : a_km a_MK md_313 [[], [30044], [], [30046], [40141], []] [] = true := by decide +kernel
set_option maxRecDepth 100000 in
theorem km_314 : a_km a_MK md_314 [[], [], [], [], [60195], [], [], [], [], [], [], [], [], [], [], [60195], [], [70219], [], [], [], [], [60195], [], [70219], [], [], [], [80034], [], [], [], [], [], [], [], [], [], [90044], [], [], [90044], [], [], [], [90044], [], [], [], [], [60195], [], [], [], [], [], [], [90044], [], [], [60195], [], [], [], [], [], [], []] [] = true := by decide +kernel
set_option maxRecDepth 100000 in
theorem km_315 : a_km a_MK md_315 [[], [], [], [60195], [], [70192], [], [], [], [], [], [], [], [70238], [], [], [60195], [], [], [], [], [], [], [], [], [], [], [60217], [], [], [], [], [], [], [], [60217], [], [], [60217], [], [], [], [], [], [], [], [], [60217], [], [], [], [], [], [], [], []] [] = true := by decide +kernel
