set_option maxRecDepth 100000 in
theorem md_159_0 : (mc_159).all (pj_oD prog_14_method_4_code) = true := by decide +kernel
theorem md_159 : mc_159.all (pj_oD prog_14_method_4_code) = true := md_159_0
set_option maxRecDepth 100000 in
theorem md_160_0 : (mc_160).all (pj_oD prog_14_method_43_code) = true := by decide +kernel
theorem md_160 : mc_160.all (pj_oD prog_14_method_43_code) = true := md_160_0
set_option maxRecDepth 100000 in
theorem md_161_0 : (mc_161).all (pj_oD prog_14_method_3_code) = true := by decide +kernel
theorem md_161 : mc_161.all (pj_oD prog_14_method_3_code) = true := md_161_0
set_option maxRecDepth 100000 in
theorem md_162_0 : (mc_162).all (pj_oD prog_14_method_5_code) = true := by decide +kernel
theorem md_162 : mc_162.all (pj_oD prog_14_method_5_code) = true := md_162_0
set_option maxRecDepth 100000 in
theorem md_163_0 : ((mc_163).take 4).all (pj_oD prog_14_method_41_code) = true := by decide +kernel
set_option maxRecDepth 100000 in
theorem md_163_1 : ((mc_163.drop 4).take 4).all (pj_oD prog_14_method_41_code) = true := by decide +kernel
set_option maxRecDepth 100000 in
theorem md_163_2 : ((mc_163.drop 4).drop 4).all (pj_oD prog_14_method_41_code) = true := by decide +kernel
theorem md_163 : mc_163.all (pj_oD prog_14_method_41_code) = true := (pj_sp _ 4 md_163_0 (pj_sp _ 4 md_163_1 md_163_2))
set_option maxRecDepth 100000 in
theorem md_164_0 : ((mc_164).take 4).all (pj_oD prog_14_method_10_code) = true := by decide +kernel
set_option maxRecDepth 100000 in
theorem md_164_1 : ((mc_164.drop 4).take 4).all (pj_oD prog_14_method_10_code) = true := by decide +kernel
set_option maxRecDepth 100000 in
theorem md_164_2 : (((mc_164.drop 4).drop 4).take 4).all (pj_oD prog_14_method_10_code) = true := by decide +kernel
set_option maxRecDepth 100000 in
theorem md_164_3 : (((mc_164.drop 4).drop 4).drop 4).all (pj_oD prog_14_method_10_code) = true := by decide +kernel
theorem md_164 : mc_164.all (pj_oD prog_14_method_10_code) = true := (pj_sp _ 4 md_164_0 (pj_sp _ 4 md_164_1 (pj_sp _ 4 md_164_2 md_164_3)))
set_option maxRecDepth 100000 in
theorem md_165_0 : (mc_165).all (pj_oD prog_14_method_7_code) = true := by decide +kernel
theorem md_165 : mc_165.all (pj_oD prog_14_method_7_code) = true := md_165_0
set_option maxRecDepth 100000 in
theorem md_166_0 : (mc_166).all (pj_oD prog_14_method_8_code) = true := by decide +kernel
theorem md_166 : mc_166.all (pj_oD prog_14_method_8_code) = true := md_166_0
set_option maxRecDepth 100000 in
theorem md_167_0 : ((mc_167).take 4).all (pj_oD prog_14_method_39_code) = true := by decide +kernel
set_option maxRecDepth 100000 in
theorem md_167_1 : (mc_167.drop 4).all (pj_oD prog_14_method_39_code) = true := by decide +kernel
theorem md_167 : mc_167.all (pj_oD prog_14_method_39_code) = true := (pj_sp _ 4 md_167_0 md_167_1)
set_option maxRecDepth 100000 in
theorem md_168_0 : (mc_168).all (pj_oD prog_14_method_9_code) = true := by decide +kernel
theorem md_168 : mc_168.all (pj_oD prog_14_method_9_code) = true := md_168_0
set_option maxRecDepth 100000 in
theorem md_169_0 : (mc_169).all (pj_oD prog_14_method_6_code) = true := by decide +kernel
theorem md_169 : mc_169.all (pj_oD prog_14_method_6_code) = true := md_169_0
set_option maxRecDepth 100000 in
theorem md_170_0 : (mc_170).all (pj_oD prog_14_method_12_code) = true := by decide +kernel
theorem md_170 : mc_170.all (pj_oD prog_14_method_12_code) = true := md_170_0
set_option maxRecDepth 100000 in
theorem md_171_0 : ((mc_171).take 4).all (pj_oD prog_14_method_32_code) = true := by decide +kernel
set_option maxRecDepth 100000 in
theorem md_171_1 : (mc_171.drop 4).all (pj_oD prog_14_method_32_code) = true := by decide +kernel
theorem md_171 : mc_171.all (pj_oD prog_14_method_32_code) = true := (pj_sp _ 4 md_171_0 md_171_1)
set_option maxRecDepth 100000 in
theorem md_172_0 : (mc_172).all (pj_oD prog_14_method_28_code) = true := by decide +kernel
theorem md_172 : mc_172.all (pj_oD prog_14_method_28_code) = true := md_172_0
set_option maxRecDepth 100000 in
theorem md_173_0 : ((mc_173).take 4).all (pj_oD prog_14_method_31_code) = true := by decide +kernel
set_option maxRecDepth 100000 in
theorem md_173_1 : (mc_173.drop 4).all (pj_oD prog_14_method_31_code) = true := by decide +kernel
theorem md_173 : mc_173.all (pj_oD prog_14_method_31_code) = true := (pj_sp _ 4 md_173_0 md_173_1)
set_option maxRecDepth 100000 in
theorem md_174_0 : ((mc_174).take 4).all (pj_oD prog_14_method_14_code) = true := by decide +kernel
set_option maxRecDepth 100000 in
theorem md_174_1 : ((mc_174.drop 4).take 4).all (pj_oD prog_14_method_14_code) = true := by decide +kernel
set_option maxRecDepth 100000 in
theorem md_174_2 : ((mc_174.drop 4).drop 4).all (pj_oD prog_14_method_14_code) = true := by decide +kernel
theorem md_174 : mc_174.all (pj_oD prog_14_method_14_code) = true := (pj_sp _ 4 md_174_0 (pj_sp _ 4 md_174_1 md_174_2))
set_option maxRecDepth 100000 in
theorem md_175_0 : (mc_175).all (pj_oD prog_14_method_15_code) = true := by decide +kernel
theorem md_175 : mc_175.all (pj_oD prog_14_method_15_code) = true := md_175_0
set_option maxRecDepth 100000 in
theorem md_176_0 : (mc_176).all (pj_oD prog_14_method_16_code) = true := by decide +kernel
theorem md_176 : mc_176.all (pj_oD prog_14_method_16_code) = true := md_176_0
set_option maxRecDepth 100000 in
theorem md_177_0 : (mc_177).all (pj_oD prog_14_method_29_code) = true := by decide +kernel
theorem md_177 : mc_177.all (pj_oD prog_14_method_29_code) = true := md_177_0
set_option maxRecDepth 100000 in
theorem md_178_0 : (mc_178).all (pj_oD prog_14_method_17_code) = true := by decide +kernel
theorem md_178 : mc_178.all (pj_oD prog_14_method_17_code) = true := md_178_0
set_option maxRecDepth 100000 in
theorem md_179_0 : (mc_179).all (pj_oD prog_14_method_2_code) = true := by decide +kernel
theorem md_179 : mc_179.all (pj_oD prog_14_method_2_code) = true := md_179_0
set_option maxRecDepth 100000 in
theorem md_180_0 : ((mc_180).take 4).all (pj_oD prog_14_method_33_code) = true := by decide +kernel
set_option maxRecDepth 100000 in
theorem md_180_1 : (mc_180.drop 4).all (pj_oD prog_14_method_33_code) = true := by decide +kernel
theorem md_180 : mc_180.all (pj_oD prog_14_method_33_code) = true := (pj_sp _ 4 md_180_0 md_180_1)
set_option maxRecDepth 100000 in
theorem md_181_0 : ((mc_181).take 4).all (pj_oD prog_14_method_36_code) = true := by decide +kernel
set_option maxRecDepth 100000 in
theorem md_181_1 : (mc_181.drop 4).all (pj_oD prog_14_method_36_code) = true := by decide +kernel
theorem md_181 : mc_181.all (pj_oD prog_14_method_36_code) = true := (pj_sp _ 4 md_181_0 md_181_1)
set_option maxRecDepth 100000 in
theorem md_182_0 : (mc_182).all (pj_oD prog_14_method_34_code) = true := by decide +kernel
theorem md_182 : mc_182.all (pj_oD prog_14_method_34_code) = true := md_182_0
set_option maxRecDepth 100000 in
theorem md_183_0 : (mc_183).all (pj_oD prog_14_method_35_code) = true := by decide +kernel
theorem md_183 : mc_183.all (pj_oD prog_14_method_35_code) = true := md_183_0
set_option maxRecDepth 100000 in
theorem md_184_0 : (mc_184).all (pj_oD prog_14_method_37_code) = true := by decide +kernel
theorem md_184 : mc_184.all (pj_oD prog_14_method_37_code) = true := md_184_0
set_option maxRecDepth 100000 in
theorem md_185_0 : ((mc_185).take 4).all (pj_oD prog_14_method_27_code) = true := by decide +kernel
set_option maxRecDepth 100000 in
theorem md_185_1 : (mc_185.drop 4).all (pj_oD prog_14_method_27_code) = true := by decide +kernel
theorem md_185 : mc_185.all (pj_oD prog_14_method_27_code) = true := (pj_sp _ 4 md_185_0 md_185_1)
set_option maxRecDepth 100000 in
theorem md_186_0 : (mc_186).all (pj_oD prog_14_method_22_code) = true := by decide +kernel
theorem md_186 : mc_186.all (pj_oD prog_14_method_22_code) = true := md_186_0
set_option maxRecDepth 100000 in
theorem md_187_0 : ((mc_187).take 4).all (pj_oD prog_14_method_25_code) = true := by decide +kernel
set_option maxRecDepth 100000 in
theorem md_187_1 : ((mc_187.drop 4).take 4).all (pj_oD prog_14_method_25_code) = true := by decide +kernel
set_option maxRecDepth 100000 in
theorem md_187_2 : (((mc_187.drop 4).drop 4).take 4).all (pj_oD prog_14_method_25_code) = true := by decide +kernel
set_option maxRecDepth 100000 in
theorem md_187_3 : ((((mc_187.drop 4).drop 4).drop 4).take 4).all (pj_oD prog_14_method_25_code) = true := by decide +kernel
set_option maxRecDepth 100000 in
theorem md_187_4 : (((((mc_187.drop 4).drop 4).drop 4).drop 4).take 4).all (pj_oD prog_14_method_25_code) = true := by decide +kernel
set_option maxRecDepth 100000 in
theorem md_187_5 : (((((mc_187.drop 4).drop 4).drop 4).drop 4).drop 4).all (pj_oD prog_14_method_25_code) = true := by decide +kernel
theorem md_187 : mc_187.all (pj_oD prog_14_method_25_code) = true := (pj_sp _ 4 md_187_0 (pj_sp _ 4 md_187_1 (pj_sp _ 4 md_187_2 (pj_sp _ 4 md_187_3 (pj_sp _ 4 md_187_4 md_187_5)))))
set_option maxRecDepth 100000 in
theorem md_188_0 : (mc_188).all (pj_oD prog_14_method_24_code) = true := by decide +kernel
theorem md_188 : mc_188.all (pj_oD prog_14_method_24_code) = true := md_188_0
set_option maxRecDepth 100000 in
theorem md_189_0 : (mc_189).all (pj_oD prog_14_method_21_code) = true := by decide +kernel
theorem md_189 : mc_189.all (pj_oD prog_14_method_21_code) = true := md_189_0
set_option maxRecDepth 100000 in
theorem md_190_0 : (mc_190).all (pj_oD prog_14_method_11_code) = true := by decide +kernel
theorem md_190 : mc_190.all (pj_oD prog_14_method_11_code) = true := md_190_0
set_option maxRecDepth 100000 in
theorem md_191_0 : (mc_191).all (pj_oD prog_14_method_23_code) = true := by decide +kernel
theorem md_191 : mc_191.all (pj_oD prog_14_method_23_code) = true := md_191_0
set_option maxRecDepth 100000 in
theorem md_192_0 : (mc_192).all (pj_oD prog_14_method_18_code) = true := by decide +kernel
theorem md_192 : mc_192.all (pj_oD prog_14_method_18_code) = true := md_192_0
set_option maxRecDepth 100000 in
theorem md_193_0 : ((mc_193).take 4).all (pj_oD prog_14_method_26_code) = true := by decide +kernel
set_option maxRecDepth 100000 in
theorem md_193_1 : ((mc_193.drop 4).take 4).all (pj_oD prog_14_method_26_code) = true := by decide +kernel
set_option maxRecDepth 100000 in
theorem md_193_2 : (((mc_193.drop 4).drop 4).take 4).all (pj_oD prog_14_method_26_code) = true := by decide +kernel
set_option maxRecDepth 100000 in
theorem md_193_3 : ((((mc_193.drop 4).drop 4).drop 4).take 4).all (pj_oD prog_14_method_26_code) = true := by decide +kernel
set_option maxRecDepth 100000 in
theorem md_193_4 : (((((mc_193.drop 4).drop 4).drop 4).drop 4).take 4).all (pj_oD prog_14_method_26_code) = true := by decide +kernel
set_option maxRecDepth 100000 in
theorem md_193_5 : ((((((mc_193.drop 4).drop 4).drop 4).drop 4).drop 4).take 4).all (pj_oD prog_14_method_26_code) = true := by decide +kernel
set_option maxRecDepth 100000 in
theorem md_193_6 : ((((((mc_193.drop 4).drop 4).drop 4).drop 4).drop 4).drop 4).all (pj_oD prog_14_method_26_code) = true := by decide +kernel
theorem md_193 : mc_193.all (pj_oD prog_14_method_26_code) = true := (pj_sp _ 4 md_193_0 (pj_sp _ 4 md_193_1 (pj_sp _ 4 md_193_2 (pj_sp _ 4 md_193_3 (pj_sp _ 4 md_193_4 (pj_sp _ 4 md_193_5 md_193_6))))))
