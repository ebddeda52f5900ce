set_option maxRecDepth 100000 in
theorem mk_254_0 : (mc_254).all (pj_oM 12 false 3) = true := by decide +kernel
theorem mk_254 : mc_254.all (pj_oM 12 false 3) = true := mk_254_0
set_option maxRecDepth 100000 in
theorem mk_255_0 : (mc_255).all (pj_oM 12 false 3) = true := by decide +kernel
theorem mk_255 : mc_255.all (pj_oM 12 false 3) = true := mk_255_0
set_option maxRecDepth 100000 in
theorem mk_256_0 : (mc_256).all (pj_oM 12 false 3) = true := by decide +kernel
theorem mk_256 : mc_256.all (pj_oM 12 false 3) = true := mk_256_0
set_option maxRecDepth 100000 in
theorem mk_257_0 : (mc_257).all (pj_oM 12 false 3) = true := by decide +kernel
theorem mk_257 : mc_257.all (pj_oM 12 false 3) = true := mk_257_0
set_option maxRecDepth 100000 in
theorem mk_258_0 : (mc_258).all (pj_oM 12 false 1) = true := by decide +kernel
theorem mk_258 : mc_258.all (pj_oM 12 false 1) = true := mk_258_0
set_option maxRecDepth 100000 in
theorem mk_259_0 : ((mc_259).take 4).all (pj_oM 12 false 1) = true := by decide +kernel
set_option maxRecDepth 100000 in
theorem mk_259_1 : ((mc_259.drop 4).take 4).all (pj_oM 12 false 1) = true := by decide +kernel
set_option maxRecDepth 100000 in
theorem mk_259_2 : ((mc_259.drop 4).drop 4).all (pj_oM 12 false 1) = true := by decide +kernel
theorem mk_259 : mc_259.all (pj_oM 12 false 1) = true := (pj_sp _ 4 mk_259_0 (pj_sp _ 4 mk_259_1 mk_259_2))
set_option maxRecDepth 100000 in
theorem mk_260_0 : (mc_260).all (pj_oM 12 false 0) = true := by decide +kernel
theorem mk_260 : mc_260.all (pj_oM 12 false 0) = true := mk_260_0
set_option maxRecDepth 100000 in
theorem mk_261_0 : (mc_261).all (pj_oM 12 false 1) = true := by decide +kernel
theorem mk_261 : mc_261.all (pj_oM 12 false 1) = true := mk_261_0
set_option maxRecDepth 100000 in
theorem mk_262_0 : (mc_262).all (pj_oM 12 false 3) = true := by decide +kernel
theorem mk_262 : mc_262.all (pj_oM 12 false 3) = true := mk_262_0
set_option maxRecDepth 100000 in
theorem mk_263_0 : ((mc_263).take 4).all (pj_oM 12 false 3) = true := by decide +kernel
set_option maxRecDepth 100000 in
theorem mk_263_1 : ((mc_263.drop 4).take 4).all (pj_oM 12 false 3) = true := by decide +kernel
set_option maxRecDepth 100000 in
theorem mk_263_2 : (((mc_263.drop 4).drop 4).take 4).all (pj_oM 12 false 3) = true := by decide +kernel
set_option maxRecDepth 100000 in
theorem mk_263_3 : (((mc_263.drop 4).drop 4).drop 4).all (pj_oM 12 false 3) = true := by decide +kernel
theorem mk_263 : mc_263.all (pj_oM 12 false 3) = true := (pj_sp _ 4 mk_263_0 (pj_sp _ 4 mk_263_1 (pj_sp _ 4 mk_263_2 mk_263_3)))
set_option maxRecDepth 100000 in
theorem mk_264_0 : ((mc_264).take 4).all (pj_oM 12 false 3) = true := by decide +kernel
set_option maxRecDepth 100000 in
theorem mk_264_1 : ((mc_264.drop 4).take 4).all (pj_oM 12 false 3) = true := by decide +kernel
set_option maxRecDepth 100000 in
theorem mk_264_2 : (((mc_264.drop 4).drop 4).take 4).all (pj_oM 12 false 3) = true := by decide +kernel
set_option maxRecDepth 100000 in
theorem mk_264_3 : (((mc_264.drop 4).drop 4).drop 4).all (pj_oM 12 false 3) = true := by decide +kernel
theorem mk_264 : mc_264.all (pj_oM 12 false 3) = true := (pj_sp _ 4 mk_264_0 (pj_sp _ 4 mk_264_1 (pj_sp _ 4 mk_264_2 mk_264_3)))
