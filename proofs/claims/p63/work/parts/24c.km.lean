/-! Every instruction of every method checked against the words. -/
set_option maxRecDepth 100000 in
theorem km_124 : a_km a_MK md_124 [[], [20079], [10158], [], [], [], [20079], [10155], [], [], [], [], [], [], [], []] [] = true := by decide +kernel
set_option maxRecDepth 100000 in
theorem km_125 : a_km a_MK md_125 [[], [30032], [], [], [50000], [], [40045, 10027, 382, 303], []] [] = true := by decide +kernel
set_option maxRecDepth 100000 in
theorem km_126 : a_km a_MK md_126 [[], [10161], [], [10157], [], [], [], [], [10157], [], [], [10157], [], [10157], [], [], []] [] = true := by decide +kernel
set_option maxRecDepth 100000 in
theorem km_127 : a_km a_MK md_127 [[], [20076], [20023], [], [], [], [], [20076], [20025], [], [], [], [], [20076], [20028], [], [], [], [], [20076], [20030], [], [], [], [], [20079], [], [], [20076], [], [40089], [40099], [], []] [] = true := by decide +kernel
set_option maxRecDepth 100000 in
theorem km_128 : a_km a_MK md_128 [[], [20079], [50009], [], [], [20076], [20020], [], [], [], [], [20076], [20032], [], [], [], [], [20076], [20035], [], [], [], [], [], [], [], [], [], [50013], []] [] = true := by decide +kernel
set_option maxRecDepth 100000 in
theorem km_129 : a_km a_MK md_129 [[], [], [40227], [], [], [], [], [40231], [], [], [], [30211], [], [], [], [30211], [], [], [], [], [40235], [40236], [], [30031], [], [30035], [40061], [], [30032], [], [], [], [], [], [], [50005], []] [] = true := by decide +kernel
set_option maxRecDepth 100000 in
theorem km_130 : a_km a_MK md_130 [[], [20079], [50009], [], [], [20076], [20020], [], [], [], [], [20076], [20038], [], [], [], [], [], [], [], [], [], [50013], []] [] = true := by decide +kernel
set_option maxRecDepth 100000 in
theorem km_131 : a_km a_MK md_131 [[], [], [40227], [], [], [], [], [40231], [], [], [], [30211], [], [], [], [], [], [50021], [40236], [], [30031], [], [30035], [40061], [], [30032], [], [], [], [], [], [50022], []] [] = true := by decide +kernel
set_option maxRecDepth 100000 in
theorem km_132 : a_km a_MK md_132 [[], [], [], [], [40167], [], [], [], [], [], [], [], [], [], [], [], [40223], [], [], [], [], [], [], [], [50017], [], [], [], [], [], []] [(40166, 40047)] = true := by decide +kernel
set_option maxRecDepth 100000 in
theorem km_133 : a_km a_MK md_133 [[], [], [], [], [], [], [30103], [], [], [30099], [], [], [], [30099], [], [], [], [], [], [], [], [], [30093], [], [], [], [], [30094], [], [30105], [], [], [], [30095], [], [30105], [], [], [], [30098], [], [], [], [30099], [], [], [], [30105], [], [], [30099], [], [], [], [], [], [], [], [], [30105], [], [], [30105], [], [30105], [], [], []] [] = true := by decide +kernel
set_option maxRecDepth 100000 in
theorem km_134 : a_km a_MK md_134 [[], [10153], [], [], [], [], [], [], [], [], [10194], [], [], [10194], [], [10153], [], [], []] [] = true := by decide +kernel
set_option maxRecDepth 100000 in
theorem km_135 : a_km a_MK md_135 [[], [], [40227], [], [], [], [30211], [], [30031], [], [30035], [40061], [], [30035], [], [], [50046], []] [] = true := by decide +kernel
set_option maxRecDepth 100000 in
theorem km_200 : a_km a_MK md_200 [[], [], [50218], []] [] = true := by decide +kernel
set_option maxRecDepth 100000 in
theorem km_201 : a_km a_MK md_201 [[], [50221], [], [50222], [], [], [50223], [], [], [], [], [], [], [], [50225], [], [], [], [60093], [], [], [], [], [10068], [], [60092], [], [], [50233, 50235, 60005, 50234, 50236], [], []] [] = true := by decide +kernel
set_option maxRecDepth 100000 in
theorem km_202 : a_km a_MK md_202 [[], [], [50239], []] [] = true := by decide +kernel
set_option maxRecDepth 100000 in
theorem km_203 : a_km a_MK md_203 [[], [], [60003, 50235, 60004], [], [], []] [] = true := by decide +kernel
set_option maxRecDepth 100000 in
theorem km_204 : a_km a_MK md_204 [[], [], [], [50222], [], [], [], [60095], [], [], [60010, 60205, 60013, 60012, 0], [], [], [60095], [], [60059, 60207, 60062, 60061, 0], [], [], [60095], [], [], [60095], [], []] [] = true := by decide +kernel
set_option maxRecDepth 100000 in
theorem km_205 : a_km a_MK md_205 [[], [60092], [], [], [60093], [], [], [], [], [], [], [], [], [60092], [], [], [60014, 60206, 60017, 60016, 0], [], [60093], [], [60026], [60092], []] [] = true := by decide +kernel
set_option maxRecDepth 100000 in
theorem km_206 : a_km a_MK md_206 [[], [60092], [], [], [], [], [60093], [], [], [], [], [], [], [], [], [], [], [], [60093], [], [], [60018], [], [], [50224], [], [], [], [60093], [], []] [] = true := by decide +kernel
set_option maxRecDepth 100000 in
theorem km_207 : a_km a_MK md_207 [[], [], [], [60021], [], [], [], [], [], [], [60022], [], [], []] [] = true := by decide +kernel
set_option maxRecDepth 100000 in
theorem km_208 : a_km a_MK md_208 [[], [], [], [], [], [10068], [], [], [], [], [], [], [], [], [60036], [60037], [], []] [] = true := by decide +kernel
set_option maxRecDepth 100000 in
theorem km_209 : a_km a_MK md_209 [[], [], [60063, 60208, 60066, 60065, 0], [], [], [60092], [], [], [60093], [60086], []] [] = true := by decide +kernel
set_option maxRecDepth 100000 in
theorem km_210 : a_km a_MK md_210 [[60043], [], [], [60093], [], [50225], [], []] [] = true := by decide +kernel
set_option maxRecDepth 100000 in
theorem km_211 : a_km a_MK md_211 [[], [], [60109, 60210, 60004], [], [], []] [] = true := by decide +kernel
set_option maxRecDepth 100000 in
theorem km_212 : a_km a_MK md_212 [[], [], [60095], [], [], [60010, 60205, 60013, 60012, 0], [], [60038, 60040, 60042, 60039, 60041], [], [], [60112], [], [], [60092], [], [], [60095], [], [], [], [60095], [], [], [], [], [], []] [] = true := by decide +kernel
set_option maxRecDepth 100000 in
theorem km_213 : a_km a_MK md_213 [[60043], [], [], [60093], [], [], [], [], []] [] = true := by decide +kernel
set_option maxRecDepth 100000 in
theorem km_214 : a_km a_MK md_214 [[], [], [], [], [], [], []] [] = true := by decide +kernel
set_option maxRecDepth 100000 in
theorem km_215 : a_km a_MK md_215 [[], [], [60122, 60211, 60004], [], [], []] [] = true := by decide +kernel
set_option maxRecDepth 100000 in
theorem km_216 : a_km a_MK md_216 [[], [60095], [], [], [], [60125], [], [], [], [], [60010, 60205, 60013, 60012, 0], [], [60038, 60040, 60042, 60039, 60041], [], [], [], [], [60092], [60128], [], [], [], [], [60095], [], []] [] = true := by decide +kernel
set_option maxRecDepth 100000 in
theorem km_217 : a_km a_MK md_217 [[], [], [], [], [], [], [], [], [], [], [], [], [], [], [], [], [], [], [], [], [], [], [], [], [], [], [], [], [], [], [], [], []] [] = true := by decide +kernel
set_option maxRecDepth 100000 in
theorem km_218 : a_km a_MK md_218 [[], [], [], [], [], [], [], [], [], [], [], [], [], [], [], [], [], [], [], [], [], [], [], [], [], [], [], [], [], [], [], [60131], [], [], [], [], [], [], [60133], [], [], [], [], [], [], [], [60131], [], [], [], [], [], [], [], [], [], [], [60133], [], [], [], [], [], [], [], [], [], [], [], [], []] [] = true := by decide +kernel
