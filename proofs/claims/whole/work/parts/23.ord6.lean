set_option maxRecDepth 100000 in
theorem mk_194_0 : ((mc_194).take 4).all (pj_oM 12 false 0) = true := by decide +kernel
set_option maxRecDepth 100000 in
theorem mk_194_1 : (mc_194.drop 4).all (pj_oM 12 false 0) = true := by decide +kernel
theorem mk_194 : mc_194.all (pj_oM 12 false 0) = true := (pj_sp _ 4 mk_194_0 mk_194_1)
set_option maxRecDepth 100000 in
theorem mk_195_0 : (mc_195).all (pj_oM 12 false 1) = true := by decide +kernel
theorem mk_195 : mc_195.all (pj_oM 12 false 1) = true := mk_195_0
set_option maxRecDepth 100000 in
theorem mk_196_0 : (mc_196).all (pj_oM 12 false 0) = true := by decide +kernel
theorem mk_196 : mc_196.all (pj_oM 12 false 0) = true := mk_196_0
set_option maxRecDepth 100000 in
theorem mk_197_0 : (mc_197).all (pj_oM 12 false 0) = true := by decide +kernel
theorem mk_197 : mc_197.all (pj_oM 12 false 0) = true := mk_197_0
set_option maxRecDepth 100000 in
theorem mk_198_0 : (mc_198).all (pj_oM 12 false 0) = true := by decide +kernel
theorem mk_198 : mc_198.all (pj_oM 12 false 0) = true := mk_198_0
set_option maxRecDepth 100000 in
theorem mk_199_0 : ((mc_199).take 4).all (pj_oM 12 false 0) = true := by decide +kernel
set_option maxRecDepth 100000 in
theorem mk_199_1 : ((mc_199.drop 4).take 4).all (pj_oM 12 false 0) = true := by decide +kernel
set_option maxRecDepth 100000 in
theorem mk_199_2 : ((mc_199.drop 4).drop 4).all (pj_oM 12 false 0) = true := by decide +kernel
theorem mk_199 : mc_199.all (pj_oM 12 false 0) = true := (pj_sp _ 4 mk_199_0 (pj_sp _ 4 mk_199_1 mk_199_2))
set_option maxRecDepth 100000 in
theorem mk_200_0 : (mc_200).all (pj_oM 12 false 1) = true := by decide +kernel
theorem mk_200 : mc_200.all (pj_oM 12 false 1) = true := mk_200_0
set_option maxRecDepth 100000 in
theorem mk_201_0 : (mc_201).all (pj_oM 12 false 1) = true := by decide +kernel
theorem mk_201 : mc_201.all (pj_oM 12 false 1) = true := mk_201_0
set_option maxRecDepth 100000 in
theorem mk_202_0 : (mc_202).all (pj_oM 12 false 3) = true := by decide +kernel
theorem mk_202 : mc_202.all (pj_oM 12 false 3) = true := mk_202_0
set_option maxRecDepth 100000 in
theorem mk_203_0 : (mc_203).all (pj_oM 12 false 1) = true := by decide +kernel
theorem mk_203 : mc_203.all (pj_oM 12 false 1) = true := mk_203_0
set_option maxRecDepth 100000 in
theorem mk_204_0 : ((mc_204).take 4).all (pj_oM 12 false 0) = true := by decide +kernel
set_option maxRecDepth 100000 in
theorem mk_204_1 : ((mc_204.drop 4).take 4).all (pj_oM 12 false 0) = true := by decide +kernel
set_option maxRecDepth 100000 in
theorem mk_204_2 : (((mc_204.drop 4).drop 4).take 4).all (pj_oM 12 false 0) = true := by decide +kernel
set_option maxRecDepth 100000 in
theorem mk_204_3 : (((mc_204.drop 4).drop 4).drop 4).all (pj_oM 12 false 0) = true := by decide +kernel
theorem mk_204 : mc_204.all (pj_oM 12 false 0) = true := (pj_sp _ 4 mk_204_0 (pj_sp _ 4 mk_204_1 (pj_sp _ 4 mk_204_2 mk_204_3)))
set_option maxRecDepth 100000 in
theorem mk_205_0 : ((mc_205).take 4).all (pj_oM 12 false 1) = true := by decide +kernel
set_option maxRecDepth 100000 in
theorem mk_205_1 : ((mc_205.drop 4).take 4).all (pj_oM 12 false 1) = true := by decide +kernel
set_option maxRecDepth 100000 in
theorem mk_205_2 : ((mc_205.drop 4).drop 4).all (pj_oM 12 false 1) = true := by decide +kernel
theorem mk_205 : mc_205.all (pj_oM 12 false 1) = true := (pj_sp _ 4 mk_205_0 (pj_sp _ 4 mk_205_1 mk_205_2))
set_option maxRecDepth 100000 in
theorem mk_206_0 : (mc_206).all (pj_oM 12 false 3) = true := by decide +kernel
theorem mk_206 : mc_206.all (pj_oM 12 false 3) = true := mk_206_0
set_option maxRecDepth 100000 in
theorem mk_207_0 : (mc_207).all (pj_oM 12 false 3) = true := by decide +kernel
theorem mk_207 : mc_207.all (pj_oM 12 false 3) = true := mk_207_0
set_option maxRecDepth 100000 in
theorem mk_208_0 : (mc_208).all (pj_oM 12 false 3) = true := by decide +kernel
theorem mk_208 : mc_208.all (pj_oM 12 false 3) = true := mk_208_0
set_option maxRecDepth 100000 in
theorem mk_209_0 : (mc_209).all (pj_oM 12 false 1) = true := by decide +kernel
theorem mk_209 : mc_209.all (pj_oM 12 false 1) = true := mk_209_0
set_option maxRecDepth 100000 in
theorem mk_210_0 : ((mc_210).take 4).all (pj_oM 12 false 1) = true := by decide +kernel
set_option maxRecDepth 100000 in
theorem mk_210_1 : (mc_210.drop 4).all (pj_oM 12 false 1) = true := by decide +kernel
theorem mk_210 : mc_210.all (pj_oM 12 false 1) = true := (pj_sp _ 4 mk_210_0 mk_210_1)
set_option maxRecDepth 100000 in
theorem mk_211_0 : (mc_211).all (pj_oM 12 false 3) = true := by decide +kernel
theorem mk_211 : mc_211.all (pj_oM 12 false 3) = true := mk_211_0
set_option maxRecDepth 100000 in
theorem mk_212_0 : (mc_212).all (pj_oM 12 false 3) = true := by decide +kernel
theorem mk_212 : mc_212.all (pj_oM 12 false 3) = true := mk_212_0
set_option maxRecDepth 100000 in
theorem mk_213_0 : ((mc_213).take 4).all (pj_oM 12 false 1) = true := by decide +kernel
set_option maxRecDepth 100000 in
theorem mk_213_1 : (mc_213.drop 4).all (pj_oM 12 false 1) = true := by decide +kernel
theorem mk_213 : mc_213.all (pj_oM 12 false 1) = true := (pj_sp _ 4 mk_213_0 mk_213_1)
set_option maxRecDepth 100000 in
theorem mk_214_0 : (mc_214).all (pj_oM 12 false 1) = true := by decide +kernel
theorem mk_214 : mc_214.all (pj_oM 12 false 1) = true := mk_214_0
set_option maxRecDepth 100000 in
theorem mk_215_0 : (mc_215).all (pj_oM 12 false 2) = true := by decide +kernel
theorem mk_215 : mc_215.all (pj_oM 12 false 2) = true := mk_215_0
set_option maxRecDepth 100000 in
theorem mk_216_0 : (mc_216).all (pj_oM 12 false 2) = true := by decide +kernel
theorem mk_216 : mc_216.all (pj_oM 12 false 2) = true := mk_216_0
set_option maxRecDepth 100000 in
theorem mk_217_0 : ((mc_217).take 4).all (pj_oM 12 false 2) = true := by decide +kernel
set_option maxRecDepth 100000 in
theorem mk_217_1 : (mc_217.drop 4).all (pj_oM 12 false 2) = true := by decide +kernel
theorem mk_217 : mc_217.all (pj_oM 12 false 2) = true := (pj_sp _ 4 mk_217_0 mk_217_1)
set_option maxRecDepth 100000 in
theorem mk_218_0 : (mc_218).all (pj_oM 12 false 3) = true := by decide +kernel
theorem mk_218 : mc_218.all (pj_oM 12 false 3) = true := mk_218_0
set_option maxRecDepth 100000 in
theorem mk_219_0 : ((mc_219).take 4).all (pj_oM 12 false 2) = true := by decide +kernel
set_option maxRecDepth 100000 in
theorem mk_219_1 : ((mc_219.drop 4).take 4).all (pj_oM 12 false 2) = true := by decide +kernel
set_option maxRecDepth 100000 in
theorem mk_219_2 : ((mc_219.drop 4).drop 4).all (pj_oM 12 false 2) = true := by decide +kernel
theorem mk_219 : mc_219.all (pj_oM 12 false 2) = true := (pj_sp _ 4 mk_219_0 (pj_sp _ 4 mk_219_1 mk_219_2))
set_option maxRecDepth 100000 in
theorem mk_220_0 : ((mc_220).take 4).all (pj_oM 12 false 2) = true := by decide +kernel
set_option maxRecDepth 100000 in
theorem mk_220_1 : (mc_220.drop 4).all (pj_oM 12 false 2) = true := by decide +kernel
theorem mk_220 : mc_220.all (pj_oM 12 false 2) = true := (pj_sp _ 4 mk_220_0 mk_220_1)
set_option maxRecDepth 100000 in
theorem mk_221_0 : (mc_221).all (pj_oM 12 false 2) = true := by decide +kernel
theorem mk_221 : mc_221.all (pj_oM 12 false 2) = true := mk_221_0
set_option maxRecDepth 100000 in
theorem mk_222_0 : (mc_222).all (pj_oM 12 false 2) = true := by decide +kernel
theorem mk_222 : mc_222.all (pj_oM 12 false 2) = true := mk_222_0
set_option maxRecDepth 100000 in
theorem mk_223_0 : (mc_223).all (pj_oM 12 false 1) = true := by decide +kernel
theorem mk_223 : mc_223.all (pj_oM 12 false 1) = true := mk_223_0
set_option maxRecDepth 100000 in
theorem mk_224_0 : (mc_224).all (pj_oM 12 false 3) = true := by decide +kernel
theorem mk_224 : mc_224.all (pj_oM 12 false 3) = true := mk_224_0
set_option maxRecDepth 100000 in
theorem mk_225_0 : (mc_225).all (pj_oM 12 false 0) = true := by decide +kernel
theorem mk_225 : mc_225.all (pj_oM 12 false 0) = true := mk_225_0
set_option maxRecDepth 100000 in
theorem mk_226_0 : ((mc_226).take 4).all (pj_oM 12 false 1) = true := by decide +kernel
set_option maxRecDepth 100000 in
theorem mk_226_1 : ((mc_226.drop 4).take 4).all (pj_oM 12 false 1) = true := by decide +kernel
set_option maxRecDepth 100000 in
theorem mk_226_2 : (((mc_226.drop 4).drop 4).take 4).all (pj_oM 12 false 1) = true := by decide +kernel
set_option maxRecDepth 100000 in
theorem mk_226_3 : ((((mc_226.drop 4).drop 4).drop 4).take 4).all (pj_oM 12 false 1) = true := by decide +kernel
set_option maxRecDepth 100000 in
theorem mk_226_4 : ((((mc_226.drop 4).drop 4).drop 4).drop 4).all (pj_oM 12 false 1) = true := by decide +kernel
theorem mk_226 : mc_226.all (pj_oM 12 false 1) = true := (pj_sp _ 4 mk_226_0 (pj_sp _ 4 mk_226_1 (pj_sp _ 4 mk_226_2 (pj_sp _ 4 mk_226_3 mk_226_4))))
set_option maxRecDepth 100000 in
theorem mk_227_0 : ((mc_227).take 4).all (pj_oM 12 false 0) = true := by decide +kernel
set_option maxRecDepth 100000 in
theorem mk_227_1 : (mc_227.drop 4).all (pj_oM 12 false 0) = true := by decide +kernel
theorem mk_227 : mc_227.all (pj_oM 12 false 0) = true := (pj_sp _ 4 mk_227_0 mk_227_1)
