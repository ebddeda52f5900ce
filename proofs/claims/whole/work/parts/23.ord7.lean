set_option maxRecDepth 100000 in
theorem mk_228_0 : ((mc_228).take 4).all (pj_oM 12 false 3) = true := by decide +kernel
set_option maxRecDepth 100000 in
theorem mk_228_1 : (mc_228.drop 4).all (pj_oM 12 false 3) = true := by decide +kernel
theorem mk_228 : mc_228.all (pj_oM 12 false 3) = true := (pj_sp _ 4 mk_228_0 mk_228_1)
set_option maxRecDepth 100000 in
theorem mk_229_0 : (mc_229).all (pj_oM 12 false 1) = true := by decide +kernel
theorem mk_229 : mc_229.all (pj_oM 12 false 1) = true := mk_229_0
set_option maxRecDepth 100000 in
theorem mk_230_0 : (mc_230).all (pj_oM 12 false 0) = true := by decide +kernel
theorem mk_230 : mc_230.all (pj_oM 12 false 0) = true := mk_230_0
set_option maxRecDepth 100000 in
theorem mk_231_0 : ((mc_231).take 4).all (pj_oM 12 false 0) = true := by decide +kernel
set_option maxRecDepth 100000 in
theorem mk_231_1 : (mc_231.drop 4).all (pj_oM 12 false 0) = true := by decide +kernel
theorem mk_231 : mc_231.all (pj_oM 12 false 0) = true := (pj_sp _ 4 mk_231_0 mk_231_1)
set_option maxRecDepth 100000 in
theorem mk_232_0 : (mc_232).all (pj_oM 12 false 1) = true := by decide +kernel
theorem mk_232 : mc_232.all (pj_oM 12 false 1) = true := mk_232_0
set_option maxRecDepth 100000 in
theorem mk_233_0 : (mc_233).all (pj_oM 12 false 1) = true := by decide +kernel
theorem mk_233 : mc_233.all (pj_oM 12 false 1) = true := mk_233_0
set_option maxRecDepth 100000 in
theorem mk_234_0 : (mc_234).all (pj_oM 12 false 3) = true := by decide +kernel
theorem mk_234 : mc_234.all (pj_oM 12 false 3) = true := mk_234_0
set_option maxRecDepth 100000 in
theorem mk_235_0 : ((mc_235).take 4).all (pj_oM 12 false 1) = true := by decide +kernel
set_option maxRecDepth 100000 in
theorem mk_235_1 : ((mc_235.drop 4).take 4).all (pj_oM 12 false 1) = true := by decide +kernel
set_option maxRecDepth 100000 in
theorem mk_235_2 : (((mc_235.drop 4).drop 4).take 4).all (pj_oM 12 false 1) = true := by decide +kernel
set_option maxRecDepth 100000 in
theorem mk_235_3 : ((((mc_235.drop 4).drop 4).drop 4).take 4).all (pj_oM 12 false 1) = true := by decide +kernel
set_option maxRecDepth 100000 in
theorem mk_235_4 : ((((mc_235.drop 4).drop 4).drop 4).drop 4).all (pj_oM 12 false 1) = true := by decide +kernel
theorem mk_235 : mc_235.all (pj_oM 12 false 1) = true := (pj_sp _ 4 mk_235_0 (pj_sp _ 4 mk_235_1 (pj_sp _ 4 mk_235_2 (pj_sp _ 4 mk_235_3 mk_235_4))))
set_option maxRecDepth 100000 in
theorem mk_236_0 : (mc_236).all (pj_oM 12 false 1) = true := by decide +kernel
theorem mk_236 : mc_236.all (pj_oM 12 false 1) = true := mk_236_0
set_option maxRecDepth 100000 in
theorem mk_237_0 : (mc_237).all (pj_oM 12 false 1) = true := by decide +kernel
theorem mk_237 : mc_237.all (pj_oM 12 false 1) = true := mk_237_0
set_option maxRecDepth 100000 in
theorem mk_238_0 : ((mc_238).take 4).all (pj_oM 12 false 1) = true := by decide +kernel
set_option maxRecDepth 100000 in
theorem mk_238_1 : ((mc_238.drop 4).take 4).all (pj_oM 12 false 1) = true := by decide +kernel
set_option maxRecDepth 100000 in
theorem mk_238_2 : ((mc_238.drop 4).drop 4).all (pj_oM 12 false 1) = true := by decide +kernel
theorem mk_238 : mc_238.all (pj_oM 12 false 1) = true := (pj_sp _ 4 mk_238_0 (pj_sp _ 4 mk_238_1 mk_238_2))
set_option maxRecDepth 100000 in
theorem mk_239_0 : ((mc_239).take 4).all (pj_oM 12 false 1) = true := by decide +kernel
set_option maxRecDepth 100000 in
theorem mk_239_1 : ((mc_239.drop 4).take 4).all (pj_oM 12 false 1) = true := by decide +kernel
set_option maxRecDepth 100000 in
theorem mk_239_2 : (((mc_239.drop 4).drop 4).take 4).all (pj_oM 12 false 1) = true := by decide +kernel
set_option maxRecDepth 100000 in
theorem mk_239_3 : (((mc_239.drop 4).drop 4).drop 4).all (pj_oM 12 false 1) = true := by decide +kernel
theorem mk_239 : mc_239.all (pj_oM 12 false 1) = true := (pj_sp _ 4 mk_239_0 (pj_sp _ 4 mk_239_1 (pj_sp _ 4 mk_239_2 mk_239_3)))
set_option maxRecDepth 100000 in
theorem mk_240_0 : ((mc_240).take 4).all (pj_oM 12 false 3) = true := by decide +kernel
set_option maxRecDepth 100000 in
theorem mk_240_1 : (mc_240.drop 4).all (pj_oM 12 false 3) = true := by decide +kernel
theorem mk_240 : mc_240.all (pj_oM 12 false 3) = true := (pj_sp _ 4 mk_240_0 mk_240_1)
set_option maxRecDepth 100000 in
theorem mk_241_0 : (mc_241).all (pj_oM 12 false 0) = true := by decide +kernel
theorem mk_241 : mc_241.all (pj_oM 12 false 0) = true := mk_241_0
set_option maxRecDepth 100000 in
theorem mk_242_0 : ((mc_242).take 4).all (pj_oM 12 false 1) = true := by decide +kernel
set_option maxRecDepth 100000 in
theorem mk_242_1 : (mc_242.drop 4).all (pj_oM 12 false 1) = true := by decide +kernel
theorem mk_242 : mc_242.all (pj_oM 12 false 1) = true := (pj_sp _ 4 mk_242_0 mk_242_1)
set_option maxRecDepth 100000 in
theorem mk_243_0 : (mc_243).all (pj_oM 12 false 1) = true := by decide +kernel
theorem mk_243 : mc_243.all (pj_oM 12 false 1) = true := mk_243_0
set_option maxRecDepth 100000 in
theorem mk_244_0 : ((mc_244).take 4).all (pj_oM 12 false 1) = true := by decide +kernel
set_option maxRecDepth 100000 in
theorem mk_244_1 : ((mc_244.drop 4).take 4).all (pj_oM 12 false 1) = true := by decide +kernel
set_option maxRecDepth 100000 in
theorem mk_244_2 : ((mc_244.drop 4).drop 4).all (pj_oM 12 false 1) = true := by decide +kernel
theorem mk_244 : mc_244.all (pj_oM 12 false 1) = true := (pj_sp _ 4 mk_244_0 (pj_sp _ 4 mk_244_1 mk_244_2))
set_option maxRecDepth 100000 in
theorem mk_245_0 : (mc_245).all (pj_oM 12 false 1) = true := by decide +kernel
theorem mk_245 : mc_245.all (pj_oM 12 false 1) = true := mk_245_0
set_option maxRecDepth 100000 in
theorem mk_246_0 : ((mc_246).take 4).all (pj_oM 12 false 1) = true := by decide +kernel
set_option maxRecDepth 100000 in
theorem mk_246_1 : ((mc_246.drop 4).take 4).all (pj_oM 12 false 1) = true := by decide +kernel
set_option maxRecDepth 100000 in
theorem mk_246_2 : ((mc_246.drop 4).drop 4).all (pj_oM 12 false 1) = true := by decide +kernel
theorem mk_246 : mc_246.all (pj_oM 12 false 1) = true := (pj_sp _ 4 mk_246_0 (pj_sp _ 4 mk_246_1 mk_246_2))
set_option maxRecDepth 100000 in
theorem mk_247_0 : ((mc_247).take 4).all (pj_oM 12 false 1) = true := by decide +kernel
set_option maxRecDepth 100000 in
theorem mk_247_1 : (mc_247.drop 4).all (pj_oM 12 false 1) = true := by decide +kernel
theorem mk_247 : mc_247.all (pj_oM 12 false 1) = true := (pj_sp _ 4 mk_247_0 mk_247_1)
set_option maxRecDepth 100000 in
theorem mk_248_0 : ((mc_248).take 4).all (pj_oM 12 false 1) = true := by decide +kernel
set_option maxRecDepth 100000 in
theorem mk_248_1 : (mc_248.drop 4).all (pj_oM 12 false 1) = true := by decide +kernel
theorem mk_248 : mc_248.all (pj_oM 12 false 1) = true := (pj_sp _ 4 mk_248_0 mk_248_1)
set_option maxRecDepth 100000 in
theorem mk_249_0 : (mc_249).all (pj_oM 12 false 1) = true := by decide +kernel
theorem mk_249 : mc_249.all (pj_oM 12 false 1) = true := mk_249_0
set_option maxRecDepth 100000 in
theorem mk_250_0 : (mc_250).all (pj_oM 12 false 0) = true := by decide +kernel
theorem mk_250 : mc_250.all (pj_oM 12 false 0) = true := mk_250_0
set_option maxRecDepth 100000 in
theorem mk_251_0 : (mc_251).all (pj_oM 12 false 1) = true := by decide +kernel
theorem mk_251 : mc_251.all (pj_oM 12 false 1) = true := mk_251_0
set_option maxRecDepth 100000 in
theorem mk_252_0 : (mc_252).all (pj_oM 12 false 1) = true := by decide +kernel
theorem mk_252 : mc_252.all (pj_oM 12 false 1) = true := mk_252_0
set_option maxRecDepth 100000 in
theorem mk_253_0 : (mc_253).all (pj_oM 12 false 1) = true := by decide +kernel
theorem mk_253 : mc_253.all (pj_oM 12 false 1) = true := mk_253_0
