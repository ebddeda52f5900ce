set_option maxRecDepth 100000 in
theorem md_194_0 : ((mc_194).take 4).all (pj_oD prog_14_method_20_code) = true := by decide +kernel
set_option maxRecDepth 100000 in
theorem md_194_1 : (mc_194.drop 4).all (pj_oD prog_14_method_20_code) = true := by decide +kernel
theorem md_194 : mc_194.all (pj_oD prog_14_method_20_code) = true := (pj_sp _ 4 md_194_0 md_194_1)
set_option maxRecDepth 100000 in
theorem md_195_0 : (mc_195).all (pj_oD prog_14_method_19_code) = true := by decide +kernel
theorem md_195 : mc_195.all (pj_oD prog_14_method_19_code) = true := md_195_0
set_option maxRecDepth 100000 in
theorem md_196_0 : (mc_196).all (pj_oD prog_14_method_38_code) = true := by decide +kernel
theorem md_196 : mc_196.all (pj_oD prog_14_method_38_code) = true := md_196_0
set_option maxRecDepth 100000 in
theorem md_197_0 : (mc_197).all (pj_oD prog_14_method_40_code) = true := by decide +kernel
theorem md_197 : mc_197.all (pj_oD prog_14_method_40_code) = true := md_197_0
set_option maxRecDepth 100000 in
theorem md_198_0 : (mc_198).all (pj_oD prog_14_method_13_code) = true := by decide +kernel
theorem md_198 : mc_198.all (pj_oD prog_14_method_13_code) = true := md_198_0
set_option maxRecDepth 100000 in
theorem md_199_0 : ((mc_199).take 4).all (pj_oD prog_14_method_46_code) = true := by decide +kernel
set_option maxRecDepth 100000 in
theorem md_199_1 : ((mc_199.drop 4).take 4).all (pj_oD prog_14_method_46_code) = true := by decide +kernel
set_option maxRecDepth 100000 in
theorem md_199_2 : ((mc_199.drop 4).drop 4).all (pj_oD prog_14_method_46_code) = true := by decide +kernel
theorem md_199 : mc_199.all (pj_oD prog_14_method_46_code) = true := (pj_sp _ 4 md_199_0 (pj_sp _ 4 md_199_1 md_199_2))
set_option maxRecDepth 100000 in
theorem md_200_0 : (mc_200).all (pj_oD prog_14_method_42_code) = true := by decide +kernel
theorem md_200 : mc_200.all (pj_oD prog_14_method_42_code) = true := md_200_0
set_option maxRecDepth 100000 in
theorem md_201_0 : (mc_201).all (pj_oD prog_14_method_44_code) = true := by decide +kernel
theorem md_201 : mc_201.all (pj_oD prog_14_method_44_code) = true := md_201_0
set_option maxRecDepth 100000 in
theorem md_202_0 : (mc_202).all (pj_oD prog_14_method_49_code) = true := by decide +kernel
theorem md_202 : mc_202.all (pj_oD prog_14_method_49_code) = true := md_202_0
set_option maxRecDepth 100000 in
theorem md_203_0 : (mc_203).all (pj_oD prog_14_method_47_code) = true := by decide +kernel
theorem md_203 : mc_203.all (pj_oD prog_14_method_47_code) = true := md_203_0
set_option maxRecDepth 100000 in
theorem md_204_0 : ((mc_204).take 4).all (pj_oD prog_14_method_45_code) = true := by decide +kernel
set_option maxRecDepth 100000 in
theorem md_204_1 : ((mc_204.drop 4).take 4).all (pj_oD prog_14_method_45_code) = true := by decide +kernel
set_option maxRecDepth 100000 in
theorem md_204_2 : (((mc_204.drop 4).drop 4).take 4).all (pj_oD prog_14_method_45_code) = true := by decide +kernel
set_option maxRecDepth 100000 in
theorem md_204_3 : (((mc_204.drop 4).drop 4).drop 4).all (pj_oD prog_14_method_45_code) = true := by decide +kernel
theorem md_204 : mc_204.all (pj_oD prog_14_method_45_code) = true := (pj_sp _ 4 md_204_0 (pj_sp _ 4 md_204_1 (pj_sp _ 4 md_204_2 md_204_3)))
set_option maxRecDepth 100000 in
theorem md_205_0 : ((mc_205).take 4).all (pj_oD prog_14_method_69_code) = true := by decide +kernel
set_option maxRecDepth 100000 in
theorem md_205_1 : ((mc_205.drop 4).take 4).all (pj_oD prog_14_method_69_code) = true := by decide +kernel
set_option maxRecDepth 100000 in
theorem md_205_2 : ((mc_205.drop 4).drop 4).all (pj_oD prog_14_method_69_code) = true := by decide +kernel
theorem md_205 : mc_205.all (pj_oD prog_14_method_69_code) = true := (pj_sp _ 4 md_205_0 (pj_sp _ 4 md_205_1 md_205_2))
set_option maxRecDepth 100000 in
theorem md_206_0 : (mc_206).all (pj_oD prog_14_method_55_code) = true := by decide +kernel
theorem md_206 : mc_206.all (pj_oD prog_14_method_55_code) = true := md_206_0
set_option maxRecDepth 100000 in
theorem md_207_0 : (mc_207).all (pj_oD prog_14_method_30_code) = true := by decide +kernel
theorem md_207 : mc_207.all (pj_oD prog_14_method_30_code) = true := md_207_0
set_option maxRecDepth 100000 in
theorem md_208_0 : (mc_208).all (pj_oD prog_14_method_57_code) = true := by decide +kernel
theorem md_208 : mc_208.all (pj_oD prog_14_method_57_code) = true := md_208_0
set_option maxRecDepth 100000 in
theorem md_209_0 : (mc_209).all (pj_oD prog_14_method_56_code) = true := by decide +kernel
theorem md_209 : mc_209.all (pj_oD prog_14_method_56_code) = true := md_209_0
set_option maxRecDepth 100000 in
theorem md_210_0 : ((mc_210).take 4).all (pj_oD prog_14_method_70_code) = true := by decide +kernel
set_option maxRecDepth 100000 in
theorem md_210_1 : (mc_210.drop 4).all (pj_oD prog_14_method_70_code) = true := by decide +kernel
theorem md_210 : mc_210.all (pj_oD prog_14_method_70_code) = true := (pj_sp _ 4 md_210_0 md_210_1)
set_option maxRecDepth 100000 in
theorem md_211_0 : (mc_211).all (pj_oD prog_14_method_66_code) = true := by decide +kernel
theorem md_211 : mc_211.all (pj_oD prog_14_method_66_code) = true := md_211_0
set_option maxRecDepth 100000 in
theorem md_212_0 : (mc_212).all (pj_oD prog_14_method_67_code) = true := by decide +kernel
theorem md_212 : mc_212.all (pj_oD prog_14_method_67_code) = true := md_212_0
set_option maxRecDepth 100000 in
theorem md_213_0 : ((mc_213).take 4).all (pj_oD prog_14_method_71_code) = true := by decide +kernel
set_option maxRecDepth 100000 in
theorem md_213_1 : (mc_213.drop 4).all (pj_oD prog_14_method_71_code) = true := by decide +kernel
theorem md_213 : mc_213.all (pj_oD prog_14_method_71_code) = true := (pj_sp _ 4 md_213_0 md_213_1)
set_option maxRecDepth 100000 in
theorem md_214_0 : (mc_214).all (pj_oD prog_14_method_72_code) = true := by decide +kernel
theorem md_214 : mc_214.all (pj_oD prog_14_method_72_code) = true := md_214_0
set_option maxRecDepth 100000 in
theorem md_215_0 : (mc_215).all (pj_oD prog_14_method_73_code) = true := by decide +kernel
theorem md_215 : mc_215.all (pj_oD prog_14_method_73_code) = true := md_215_0
set_option maxRecDepth 100000 in
theorem md_216_0 : (mc_216).all (pj_oD prog_14_method_59_code) = true := by decide +kernel
theorem md_216 : mc_216.all (pj_oD prog_14_method_59_code) = true := md_216_0
set_option maxRecDepth 100000 in
theorem md_217_0 : ((mc_217).take 4).all (pj_oD prog_14_method_58_code) = true := by decide +kernel
set_option maxRecDepth 100000 in
theorem md_217_1 : (mc_217.drop 4).all (pj_oD prog_14_method_58_code) = true := by decide +kernel
theorem md_217 : mc_217.all (pj_oD prog_14_method_58_code) = true := (pj_sp _ 4 md_217_0 md_217_1)
set_option maxRecDepth 100000 in
theorem md_218_0 : (mc_218).all (pj_oD prog_14_method_54_code) = true := by decide +kernel
theorem md_218 : mc_218.all (pj_oD prog_14_method_54_code) = true := md_218_0
set_option maxRecDepth 100000 in
theorem md_219_0 : ((mc_219).take 4).all (pj_oD prog_14_method_53_code) = true := by decide +kernel
set_option maxRecDepth 100000 in
theorem md_219_1 : ((mc_219.drop 4).take 4).all (pj_oD prog_14_method_53_code) = true := by decide +kernel
set_option maxRecDepth 100000 in
theorem md_219_2 : ((mc_219.drop 4).drop 4).all (pj_oD prog_14_method_53_code) = true := by decide +kernel
theorem md_219 : mc_219.all (pj_oD prog_14_method_53_code) = true := (pj_sp _ 4 md_219_0 (pj_sp _ 4 md_219_1 md_219_2))
set_option maxRecDepth 100000 in
theorem md_220_0 : ((mc_220).take 4).all (pj_oD prog_14_method_52_code) = true := by decide +kernel
set_option maxRecDepth 100000 in
theorem md_220_1 : (mc_220.drop 4).all (pj_oD prog_14_method_52_code) = true := by decide +kernel
theorem md_220 : mc_220.all (pj_oD prog_14_method_52_code) = true := (pj_sp _ 4 md_220_0 md_220_1)
set_option maxRecDepth 100000 in
theorem md_221_0 : (mc_221).all (pj_oD prog_14_method_50_code) = true := by decide +kernel
theorem md_221 : mc_221.all (pj_oD prog_14_method_50_code) = true := md_221_0
set_option maxRecDepth 100000 in
theorem md_222_0 : (mc_222).all (pj_oD prog_14_method_51_code) = true := by decide +kernel
theorem md_222 : mc_222.all (pj_oD prog_14_method_51_code) = true := md_222_0
set_option maxRecDepth 100000 in
theorem md_223_0 : (mc_223).all (pj_oD prog_14_method_76_code) = true := by decide +kernel
theorem md_223 : mc_223.all (pj_oD prog_14_method_76_code) = true := md_223_0
set_option maxRecDepth 100000 in
theorem md_224_0 : (mc_224).all (pj_oD prog_14_method_74_code) = true := by decide +kernel
theorem md_224 : mc_224.all (pj_oD prog_14_method_74_code) = true := md_224_0
set_option maxRecDepth 100000 in
theorem md_225_0 : (mc_225).all (pj_oD prog_14_method_75_code) = true := by decide +kernel
theorem md_225 : mc_225.all (pj_oD prog_14_method_75_code) = true := md_225_0
set_option maxRecDepth 100000 in
theorem md_226_0 : ((mc_226).take 4).all (pj_oD prog_14_method_65_code) = true := by decide +kernel
set_option maxRecDepth 100000 in
theorem md_226_1 : ((mc_226.drop 4).take 4).all (pj_oD prog_14_method_65_code) = true := by decide +kernel
set_option maxRecDepth 100000 in
theorem md_226_2 : (((mc_226.drop 4).drop 4).take 4).all (pj_oD prog_14_method_65_code) = true := by decide +kernel
set_option maxRecDepth 100000 in
theorem md_226_3 : ((((mc_226.drop 4).drop 4).drop 4).take 4).all (pj_oD prog_14_method_65_code) = true := by decide +kernel
set_option maxRecDepth 100000 in
theorem md_226_4 : ((((mc_226.drop 4).drop 4).drop 4).drop 4).all (pj_oD prog_14_method_65_code) = true := by decide +kernel
theorem md_226 : mc_226.all (pj_oD prog_14_method_65_code) = true := (pj_sp _ 4 md_226_0 (pj_sp _ 4 md_226_1 (pj_sp _ 4 md_226_2 (pj_sp _ 4 md_226_3 md_226_4))))
set_option maxRecDepth 100000 in
theorem md_227_0 : ((mc_227).take 4).all (pj_oD prog_14_method_60_code) = true := by decide +kernel
set_option maxRecDepth 100000 in
theorem md_227_1 : (mc_227.drop 4).all (pj_oD prog_14_method_60_code) = true := by decide +kernel
theorem md_227 : mc_227.all (pj_oD prog_14_method_60_code) = true := (pj_sp _ 4 md_227_0 md_227_1)
