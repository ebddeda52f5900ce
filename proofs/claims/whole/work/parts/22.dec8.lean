set_option maxRecDepth 100000 in
theorem md_254_0 : (mc_254).all (pj_oD prog_14_method_97_code) = true := by decide +kernel
theorem md_254 : mc_254.all (pj_oD prog_14_method_97_code) = true := md_254_0
set_option maxRecDepth 100000 in
theorem md_255_0 : (mc_255).all (pj_oD prog_14_method_98_code) = true := by decide +kernel
theorem md_255 : mc_255.all (pj_oD prog_14_method_98_code) = true := md_255_0
set_option maxRecDepth 100000 in
theorem md_256_0 : (mc_256).all (pj_oD prog_14_method_99_code) = true := by decide +kernel
theorem md_256 : mc_256.all (pj_oD prog_14_method_99_code) = true := md_256_0
set_option maxRecDepth 100000 in
theorem md_257_0 : (mc_257).all (pj_oD prog_14_method_100_code) = true := by decide +kernel
theorem md_257 : mc_257.all (pj_oD prog_14_method_100_code) = true := md_257_0
set_option maxRecDepth 100000 in
theorem md_258_0 : (mc_258).all (pj_oD prog_14_method_101_code) = true := by decide +kernel
theorem md_258 : mc_258.all (pj_oD prog_14_method_101_code) = true := md_258_0
set_option maxRecDepth 100000 in
theorem md_259_0 : ((mc_259).take 4).all (pj_oD prog_14_method_103_code) = true := by decide +kernel
set_option maxRecDepth 100000 in
theorem md_259_1 : ((mc_259.drop 4).take 4).all (pj_oD prog_14_method_103_code) = true := by decide +kernel
set_option maxRecDepth 100000 in
theorem md_259_2 : ((mc_259.drop 4).drop 4).all (pj_oD prog_14_method_103_code) = true := by decide +kernel
theorem md_259 : mc_259.all (pj_oD prog_14_method_103_code) = true := (pj_sp _ 4 md_259_0 (pj_sp _ 4 md_259_1 md_259_2))
set_option maxRecDepth 100000 in
theorem md_260_0 : (mc_260).all (pj_oD prog_14_method_102_code) = true := by decide +kernel
theorem md_260 : mc_260.all (pj_oD prog_14_method_102_code) = true := md_260_0
set_option maxRecDepth 100000 in
theorem md_261_0 : (mc_261).all (pj_oD prog_14_method_104_code) = true := by decide +kernel
theorem md_261 : mc_261.all (pj_oD prog_14_method_104_code) = true := md_261_0
set_option maxRecDepth 100000 in
theorem md_262_0 : (mc_262).all (pj_oD prog_14_method_107_code) = true := by decide +kernel
theorem md_262 : mc_262.all (pj_oD prog_14_method_107_code) = true := md_262_0
set_option maxRecDepth 100000 in
theorem md_263_0 : ((mc_263).take 4).all (pj_oD prog_14_method_106_code) = true := by decide +kernel
set_option maxRecDepth 100000 in
theorem md_263_1 : ((mc_263.drop 4).take 4).all (pj_oD prog_14_method_106_code) = true := by decide +kernel
set_option maxRecDepth 100000 in
theorem md_263_2 : (((mc_263.drop 4).drop 4).take 4).all (pj_oD prog_14_method_106_code) = true := by decide +kernel
set_option maxRecDepth 100000 in
theorem md_263_3 : (((mc_263.drop 4).drop 4).drop 4).all (pj_oD prog_14_method_106_code) = true := by decide +kernel
theorem md_263 : mc_263.all (pj_oD prog_14_method_106_code) = true := (pj_sp _ 4 md_263_0 (pj_sp _ 4 md_263_1 (pj_sp _ 4 md_263_2 md_263_3)))
set_option maxRecDepth 100000 in
theorem md_264_0 : ((mc_264).take 4).all (pj_oD prog_14_method_105_code) = true := by decide +kernel
set_option maxRecDepth 100000 in
theorem md_264_1 : ((mc_264.drop 4).take 4).all (pj_oD prog_14_method_105_code) = true := by decide +kernel
set_option maxRecDepth 100000 in
theorem md_264_2 : (((mc_264.drop 4).drop 4).take 4).all (pj_oD prog_14_method_105_code) = true := by decide +kernel
set_option maxRecDepth 100000 in
theorem md_264_3 : (((mc_264.drop 4).drop 4).drop 4).all (pj_oD prog_14_method_105_code) = true := by decide +kernel
theorem md_264 : mc_264.all (pj_oD prog_14_method_105_code) = true := (pj_sp _ 4 md_264_0 (pj_sp _ 4 md_264_1 (pj_sp _ 4 md_264_2 md_264_3)))
