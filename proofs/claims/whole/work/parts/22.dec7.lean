set_option maxRecDepth 100000 in
theorem md_228_0 : ((mc_228).take 4).all (pj_oD prog_14_method_61_code) = true := by decide +kernel
set_option maxRecDepth 100000 in
theorem md_228_1 : (mc_228.drop 4).all (pj_oD prog_14_method_61_code) = true := by decide +kernel
theorem md_228 : mc_228.all (pj_oD prog_14_method_61_code) = true := (pj_sp _ 4 md_228_0 md_228_1)
set_option maxRecDepth 100000 in
theorem md_229_0 : (mc_229).all (pj_oD prog_14_method_63_code) = true := by decide +kernel
theorem md_229 : mc_229.all (pj_oD prog_14_method_63_code) = true := md_229_0
set_option maxRecDepth 100000 in
theorem md_230_0 : (mc_230).all (pj_oD prog_14_method_62_code) = true := by decide +kernel
theorem md_230 : mc_230.all (pj_oD prog_14_method_62_code) = true := md_230_0
set_option maxRecDepth 100000 in
theorem md_231_0 : ((mc_231).take 4).all (pj_oD prog_14_method_64_code) = true := by decide +kernel
set_option maxRecDepth 100000 in
theorem md_231_1 : (mc_231.drop 4).all (pj_oD prog_14_method_64_code) = true := by decide +kernel
theorem md_231 : mc_231.all (pj_oD prog_14_method_64_code) = true := (pj_sp _ 4 md_231_0 md_231_1)
set_option maxRecDepth 100000 in
theorem md_232_0 : (mc_232).all (pj_oD prog_14_method_77_code) = true := by decide +kernel
theorem md_232 : mc_232.all (pj_oD prog_14_method_77_code) = true := md_232_0
set_option maxRecDepth 100000 in
theorem md_233_0 : (mc_233).all (pj_oD prog_14_method_78_code) = true := by decide +kernel
theorem md_233 : mc_233.all (pj_oD prog_14_method_78_code) = true := md_233_0
set_option maxRecDepth 100000 in
theorem md_234_0 : (mc_234).all (pj_oD prog_14_method_68_code) = true := by decide +kernel
theorem md_234 : mc_234.all (pj_oD prog_14_method_68_code) = true := md_234_0
set_option maxRecDepth 100000 in
theorem md_235_0 : ((mc_235).take 4).all (pj_oD prog_14_method_81_code) = true := by decide +kernel
set_option maxRecDepth 100000 in
theorem md_235_1 : ((mc_235.drop 4).take 4).all (pj_oD prog_14_method_81_code) = true := by decide +kernel
set_option maxRecDepth 100000 in
theorem md_235_2 : (((mc_235.drop 4).drop 4).take 4).all (pj_oD prog_14_method_81_code) = true := by decide +kernel
set_option maxRecDepth 100000 in
theorem md_235_3 : ((((mc_235.drop 4).drop 4).drop 4).take 4).all (pj_oD prog_14_method_81_code) = true := by decide +kernel
set_option maxRecDepth 100000 in
theorem md_235_4 : ((((mc_235.drop 4).drop 4).drop 4).drop 4).all (pj_oD prog_14_method_81_code) = true := by decide +kernel
theorem md_235 : mc_235.all (pj_oD prog_14_method_81_code) = true := (pj_sp _ 4 md_235_0 (pj_sp _ 4 md_235_1 (pj_sp _ 4 md_235_2 (pj_sp _ 4 md_235_3 md_235_4))))
set_option maxRecDepth 100000 in
theorem md_236_0 : (mc_236).all (pj_oD prog_14_method_80_code) = true := by decide +kernel
theorem md_236 : mc_236.all (pj_oD prog_14_method_80_code) = true := md_236_0
set_option maxRecDepth 100000 in
theorem md_237_0 : (mc_237).all (pj_oD prog_14_method_79_code) = true := by decide +kernel
theorem md_237 : mc_237.all (pj_oD prog_14_method_79_code) = true := md_237_0
set_option maxRecDepth 100000 in
theorem md_238_0 : ((mc_238).take 4).all (pj_oD prog_14_method_82_code) = true := by decide +kernel
set_option maxRecDepth 100000 in
theorem md_238_1 : ((mc_238.drop 4).take 4).all (pj_oD prog_14_method_82_code) = true := by decide +kernel
set_option maxRecDepth 100000 in
theorem md_238_2 : ((mc_238.drop 4).drop 4).all (pj_oD prog_14_method_82_code) = true := by decide +kernel
theorem md_238 : mc_238.all (pj_oD prog_14_method_82_code) = true := (pj_sp _ 4 md_238_0 (pj_sp _ 4 md_238_1 md_238_2))
set_option maxRecDepth 100000 in
theorem md_239_0 : ((mc_239).take 4).all (pj_oD prog_14_method_85_code) = true := by decide +kernel
set_option maxRecDepth 100000 in
theorem md_239_1 : ((mc_239.drop 4).take 4).all (pj_oD prog_14_method_85_code) = true := by decide +kernel
set_option maxRecDepth 100000 in
theorem md_239_2 : (((mc_239.drop 4).drop 4).take 4).all (pj_oD prog_14_method_85_code) = true := by decide +kernel
set_option maxRecDepth 100000 in
theorem md_239_3 : (((mc_239.drop 4).drop 4).drop 4).all (pj_oD prog_14_method_85_code) = true := by decide +kernel
theorem md_239 : mc_239.all (pj_oD prog_14_method_85_code) = true := (pj_sp _ 4 md_239_0 (pj_sp _ 4 md_239_1 (pj_sp _ 4 md_239_2 md_239_3)))
set_option maxRecDepth 100000 in
theorem md_240_0 : ((mc_240).take 4).all (pj_oD prog_14_method_84_code) = true := by decide +kernel
set_option maxRecDepth 100000 in
theorem md_240_1 : (mc_240.drop 4).all (pj_oD prog_14_method_84_code) = true := by decide +kernel
theorem md_240 : mc_240.all (pj_oD prog_14_method_84_code) = true := (pj_sp _ 4 md_240_0 md_240_1)
set_option maxRecDepth 100000 in
theorem md_241_0 : (mc_241).all (pj_oD prog_14_method_83_code) = true := by decide +kernel
theorem md_241 : mc_241.all (pj_oD prog_14_method_83_code) = true := md_241_0
set_option maxRecDepth 100000 in
theorem md_242_0 : ((mc_242).take 4).all (pj_oD prog_14_method_86_code) = true := by decide +kernel
set_option maxRecDepth 100000 in
theorem md_242_1 : (mc_242.drop 4).all (pj_oD prog_14_method_86_code) = true := by decide +kernel
theorem md_242 : mc_242.all (pj_oD prog_14_method_86_code) = true := (pj_sp _ 4 md_242_0 md_242_1)
set_option maxRecDepth 100000 in
theorem md_243_0 : (mc_243).all (pj_oD prog_14_method_87_code) = true := by decide +kernel
theorem md_243 : mc_243.all (pj_oD prog_14_method_87_code) = true := md_243_0
set_option maxRecDepth 100000 in
theorem md_244_0 : ((mc_244).take 4).all (pj_oD prog_14_method_88_code) = true := by decide +kernel
set_option maxRecDepth 100000 in
theorem md_244_1 : ((mc_244.drop 4).take 4).all (pj_oD prog_14_method_88_code) = true := by decide +kernel
set_option maxRecDepth 100000 in
theorem md_244_2 : ((mc_244.drop 4).drop 4).all (pj_oD prog_14_method_88_code) = true := by decide +kernel
theorem md_244 : mc_244.all (pj_oD prog_14_method_88_code) = true := (pj_sp _ 4 md_244_0 (pj_sp _ 4 md_244_1 md_244_2))
set_option maxRecDepth 100000 in
theorem md_245_0 : (mc_245).all (pj_oD prog_14_method_90_code) = true := by decide +kernel
theorem md_245 : mc_245.all (pj_oD prog_14_method_90_code) = true := md_245_0
set_option maxRecDepth 100000 in
theorem md_246_0 : ((mc_246).take 4).all (pj_oD prog_14_method_89_code) = true := by decide +kernel
set_option maxRecDepth 100000 in
theorem md_246_1 : ((mc_246.drop 4).take 4).all (pj_oD prog_14_method_89_code) = true := by decide +kernel
set_option maxRecDepth 100000 in
theorem md_246_2 : ((mc_246.drop 4).drop 4).all (pj_oD prog_14_method_89_code) = true := by decide +kernel
theorem md_246 : mc_246.all (pj_oD prog_14_method_89_code) = true := (pj_sp _ 4 md_246_0 (pj_sp _ 4 md_246_1 md_246_2))
set_option maxRecDepth 100000 in
theorem md_247_0 : ((mc_247).take 4).all (pj_oD prog_14_method_92_code) = true := by decide +kernel
set_option maxRecDepth 100000 in
theorem md_247_1 : (mc_247.drop 4).all (pj_oD prog_14_method_92_code) = true := by decide +kernel
theorem md_247 : mc_247.all (pj_oD prog_14_method_92_code) = true := (pj_sp _ 4 md_247_0 md_247_1)
set_option maxRecDepth 100000 in
theorem md_248_0 : ((mc_248).take 4).all (pj_oD prog_14_method_91_code) = true := by decide +kernel
set_option maxRecDepth 100000 in
theorem md_248_1 : (mc_248.drop 4).all (pj_oD prog_14_method_91_code) = true := by decide +kernel
theorem md_248 : mc_248.all (pj_oD prog_14_method_91_code) = true := (pj_sp _ 4 md_248_0 md_248_1)
set_option maxRecDepth 100000 in
theorem md_249_0 : (mc_249).all (pj_oD prog_14_method_93_code) = true := by decide +kernel
theorem md_249 : mc_249.all (pj_oD prog_14_method_93_code) = true := md_249_0
set_option maxRecDepth 100000 in
theorem md_250_0 : (mc_250).all (pj_oD prog_14_method_48_code) = true := by decide +kernel
theorem md_250 : mc_250.all (pj_oD prog_14_method_48_code) = true := md_250_0
set_option maxRecDepth 100000 in
theorem md_251_0 : (mc_251).all (pj_oD prog_14_method_96_code) = true := by decide +kernel
theorem md_251 : mc_251.all (pj_oD prog_14_method_96_code) = true := md_251_0
set_option maxRecDepth 100000 in
theorem md_252_0 : (mc_252).all (pj_oD prog_14_method_94_code) = true := by decide +kernel
theorem md_252 : mc_252.all (pj_oD prog_14_method_94_code) = true := md_252_0
set_option maxRecDepth 100000 in
theorem md_253_0 : (mc_253).all (pj_oD prog_14_method_95_code) = true := by decide +kernel
theorem md_253 : mc_253.all (pj_oD prog_14_method_95_code) = true := md_253_0
