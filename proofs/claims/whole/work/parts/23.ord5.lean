set_option maxRecDepth 100000 in
theorem mk_159_0 : (mc_159).all (pj_oM 12 false 1) = true := by decide +kernel
theorem mk_159 : mc_159.all (pj_oM 12 false 1) = true := mk_159_0
set_option maxRecDepth 100000 in
theorem mk_160_0 : (mc_160).all (pj_oM 12 false 1) = true := by decide +kernel
theorem mk_160 : mc_160.all (pj_oM 12 false 1) = true := mk_160_0
set_option maxRecDepth 100000 in
theorem mk_161_0 : (mc_161).all (pj_oM 12 false 0) = true := by decide +kernel
theorem mk_161 : mc_161.all (pj_oM 12 false 0) = true := mk_161_0
set_option maxRecDepth 100000 in
theorem mk_162_0 : (mc_162).all (pj_oM 12 false 3) = true := by decide +kernel
theorem mk_162 : mc_162.all (pj_oM 12 false 3) = true := mk_162_0
set_option maxRecDepth 100000 in
theorem mk_163_0 : ((mc_163).take 4).all (pj_oM 12 false 1) = true := by decide +kernel
set_option maxRecDepth 100000 in
theorem mk_163_1 : ((mc_163.drop 4).take 4).all (pj_oM 12 false 1) = true := by decide +kernel
set_option maxRecDepth 100000 in
theorem mk_163_2 : ((mc_163.drop 4).drop 4).all (pj_oM 12 false 1) = true := by decide +kernel
theorem mk_163 : mc_163.all (pj_oM 12 false 1) = true := (pj_sp _ 4 mk_163_0 (pj_sp _ 4 mk_163_1 mk_163_2))
set_option maxRecDepth 100000 in
theorem mk_164_0 : ((mc_164).take 4).all (pj_oM 12 false 0) = true := by decide +kernel
set_option maxRecDepth 100000 in
theorem mk_164_1 : ((mc_164.drop 4).take 4).all (pj_oM 12 false 0) = true := by decide +kernel
set_option maxRecDepth 100000 in
theorem mk_164_2 : (((mc_164.drop 4).drop 4).take 4).all (pj_oM 12 false 0) = true := by decide +kernel
set_option maxRecDepth 100000 in
theorem mk_164_3 : (((mc_164.drop 4).drop 4).drop 4).all (pj_oM 12 false 0) = true := by decide +kernel
theorem mk_164 : mc_164.all (pj_oM 12 false 0) = true := (pj_sp _ 4 mk_164_0 (pj_sp _ 4 mk_164_1 (pj_sp _ 4 mk_164_2 mk_164_3)))
set_option maxRecDepth 100000 in
theorem mk_165_0 : (mc_165).all (pj_oM 12 false 3) = true := by decide +kernel
theorem mk_165 : mc_165.all (pj_oM 12 false 3) = true := mk_165_0
set_option maxRecDepth 100000 in
theorem mk_166_0 : (mc_166).all (pj_oM 12 false 3) = true := by decide +kernel
theorem mk_166 : mc_166.all (pj_oM 12 false 3) = true := mk_166_0
set_option maxRecDepth 100000 in
theorem mk_167_0 : ((mc_167).take 4).all (pj_oM 12 false 0) = true := by decide +kernel
set_option maxRecDepth 100000 in
theorem mk_167_1 : (mc_167.drop 4).all (pj_oM 12 false 0) = true := by decide +kernel
theorem mk_167 : mc_167.all (pj_oM 12 false 0) = true := (pj_sp _ 4 mk_167_0 mk_167_1)
set_option maxRecDepth 100000 in
theorem mk_168_0 : (mc_168).all (pj_oM 12 false 0) = true := by decide +kernel
theorem mk_168 : mc_168.all (pj_oM 12 false 0) = true := mk_168_0
set_option maxRecDepth 100000 in
theorem mk_169_0 : (mc_169).all (pj_oM 12 false 0) = true := by decide +kernel
theorem mk_169 : mc_169.all (pj_oM 12 false 0) = true := mk_169_0
set_option maxRecDepth 100000 in
theorem mk_170_0 : (mc_170).all (pj_oM 12 false 3) = true := by decide +kernel
theorem mk_170 : mc_170.all (pj_oM 12 false 3) = true := mk_170_0
set_option maxRecDepth 100000 in
theorem mk_171_0 : ((mc_171).take 4).all (pj_oM 12 false 0) = true := by decide +kernel
set_option maxRecDepth 100000 in
theorem mk_171_1 : (mc_171.drop 4).all (pj_oM 12 false 0) = true := by decide +kernel
theorem mk_171 : mc_171.all (pj_oM 12 false 0) = true := (pj_sp _ 4 mk_171_0 mk_171_1)
set_option maxRecDepth 100000 in
theorem mk_172_0 : (mc_172).all (pj_oM 12 false 3) = true := by decide +kernel
theorem mk_172 : mc_172.all (pj_oM 12 false 3) = true := mk_172_0
set_option maxRecDepth 100000 in
theorem mk_173_0 : ((mc_173).take 4).all (pj_oM 12 false 2) = true := by decide +kernel
set_option maxRecDepth 100000 in
theorem mk_173_1 : (mc_173.drop 4).all (pj_oM 12 false 2) = true := by decide +kernel
theorem mk_173 : mc_173.all (pj_oM 12 false 2) = true := (pj_sp _ 4 mk_173_0 mk_173_1)
set_option maxRecDepth 100000 in
theorem mk_174_0 : ((mc_174).take 4).all (pj_oM 12 false 3) = true := by decide +kernel
set_option maxRecDepth 100000 in
theorem mk_174_1 : ((mc_174.drop 4).take 4).all (pj_oM 12 false 3) = true := by decide +kernel
set_option maxRecDepth 100000 in
theorem mk_174_2 : ((mc_174.drop 4).drop 4).all (pj_oM 12 false 3) = true := by decide +kernel
theorem mk_174 : mc_174.all (pj_oM 12 false 3) = true := (pj_sp _ 4 mk_174_0 (pj_sp _ 4 mk_174_1 mk_174_2))
set_option maxRecDepth 100000 in
theorem mk_175_0 : (mc_175).all (pj_oM 12 false 1) = true := by decide +kernel
theorem mk_175 : mc_175.all (pj_oM 12 false 1) = true := mk_175_0
set_option maxRecDepth 100000 in
theorem mk_176_0 : (mc_176).all (pj_oM 12 false 1) = true := by decide +kernel
theorem mk_176 : mc_176.all (pj_oM 12 false 1) = true := mk_176_0
set_option maxRecDepth 100000 in
theorem mk_177_0 : (mc_177).all (pj_oM 12 false 0) = true := by decide +kernel
theorem mk_177 : mc_177.all (pj_oM 12 false 0) = true := mk_177_0
set_option maxRecDepth 100000 in
theorem mk_178_0 : (mc_178).all (pj_oM 12 false 1) = true := by decide +kernel
theorem mk_178 : mc_178.all (pj_oM 12 false 1) = true := mk_178_0
set_option maxRecDepth 100000 in
theorem mk_179_0 : (mc_179).all (pj_oM 12 false 3) = true := by decide +kernel
theorem mk_179 : mc_179.all (pj_oM 12 false 3) = true := mk_179_0
set_option maxRecDepth 100000 in
theorem mk_180_0 : ((mc_180).take 4).all (pj_oM 12 false 0) = true := by decide +kernel
set_option maxRecDepth 100000 in
theorem mk_180_1 : (mc_180.drop 4).all (pj_oM 12 false 0) = true := by decide +kernel
theorem mk_180 : mc_180.all (pj_oM 12 false 0) = true := (pj_sp _ 4 mk_180_0 mk_180_1)
set_option maxRecDepth 100000 in
theorem mk_181_0 : ((mc_181).take 4).all (pj_oM 12 false 0) = true := by decide +kernel
set_option maxRecDepth 100000 in
theorem mk_181_1 : (mc_181.drop 4).all (pj_oM 12 false 0) = true := by decide +kernel
theorem mk_181 : mc_181.all (pj_oM 12 false 0) = true := (pj_sp _ 4 mk_181_0 mk_181_1)
set_option maxRecDepth 100000 in
theorem mk_182_0 : (mc_182).all (pj_oM 12 false 2) = true := by decide +kernel
theorem mk_182 : mc_182.all (pj_oM 12 false 2) = true := mk_182_0
set_option maxRecDepth 100000 in
theorem mk_183_0 : (mc_183).all (pj_oM 12 false 3) = true := by decide +kernel
theorem mk_183 : mc_183.all (pj_oM 12 false 3) = true := mk_183_0
set_option maxRecDepth 100000 in
theorem mk_184_0 : (mc_184).all (pj_oM 12 false 0) = true := by decide +kernel
theorem mk_184 : mc_184.all (pj_oM 12 false 0) = true := mk_184_0
set_option maxRecDepth 100000 in
theorem mk_185_0 : ((mc_185).take 4).all (pj_oM 12 false 0) = true := by decide +kernel
set_option maxRecDepth 100000 in
theorem mk_185_1 : (mc_185.drop 4).all (pj_oM 12 false 0) = true := by decide +kernel
theorem mk_185 : mc_185.all (pj_oM 12 false 0) = true := (pj_sp _ 4 mk_185_0 mk_185_1)
set_option maxRecDepth 100000 in
theorem mk_186_0 : (mc_186).all (pj_oM 12 false 0) = true := by decide +kernel
theorem mk_186 : mc_186.all (pj_oM 12 false 0) = true := mk_186_0
set_option maxRecDepth 100000 in
theorem mk_187_0 : ((mc_187).take 4).all (pj_oM 12 false 3) = true := by decide +kernel
set_option maxRecDepth 100000 in
theorem mk_187_1 : ((mc_187.drop 4).take 4).all (pj_oM 12 false 3) = true := by decide +kernel
set_option maxRecDepth 100000 in
theorem mk_187_2 : (((mc_187.drop 4).drop 4).take 4).all (pj_oM 12 false 3) = true := by decide +kernel
set_option maxRecDepth 100000 in
theorem mk_187_3 : ((((mc_187.drop 4).drop 4).drop 4).take 4).all (pj_oM 12 false 3) = true := by decide +kernel
set_option maxRecDepth 100000 in
theorem mk_187_4 : (((((mc_187.drop 4).drop 4).drop 4).drop 4).take 4).all (pj_oM 12 false 3) = true := by decide +kernel
set_option maxRecDepth 100000 in
theorem mk_187_5 : (((((mc_187.drop 4).drop 4).drop 4).drop 4).drop 4).all (pj_oM 12 false 3) = true := by decide +kernel
theorem mk_187 : mc_187.all (pj_oM 12 false 3) = true := (pj_sp _ 4 mk_187_0 (pj_sp _ 4 mk_187_1 (pj_sp _ 4 mk_187_2 (pj_sp _ 4 mk_187_3 (pj_sp _ 4 mk_187_4 mk_187_5)))))
set_option maxRecDepth 100000 in
theorem mk_188_0 : (mc_188).all (pj_oM 12 false 3) = true := by decide +kernel
theorem mk_188 : mc_188.all (pj_oM 12 false 3) = true := mk_188_0
set_option maxRecDepth 100000 in
theorem mk_189_0 : (mc_189).all (pj_oM 12 false 0) = true := by decide +kernel
theorem mk_189 : mc_189.all (pj_oM 12 false 0) = true := mk_189_0
set_option maxRecDepth 100000 in
theorem mk_190_0 : (mc_190).all (pj_oM 12 false 3) = true := by decide +kernel
theorem mk_190 : mc_190.all (pj_oM 12 false 3) = true := mk_190_0
set_option maxRecDepth 100000 in
theorem mk_191_0 : (mc_191).all (pj_oM 12 false 0) = true := by decide +kernel
theorem mk_191 : mc_191.all (pj_oM 12 false 0) = true := mk_191_0
set_option maxRecDepth 100000 in
theorem mk_192_0 : (mc_192).all (pj_oM 12 false 0) = true := by decide +kernel
theorem mk_192 : mc_192.all (pj_oM 12 false 0) = true := mk_192_0
set_option maxRecDepth 100000 in
theorem mk_193_0 : ((mc_193).take 4).all (pj_oM 12 false 3) = true := by decide +kernel
set_option maxRecDepth 100000 in
theorem mk_193_1 : ((mc_193.drop 4).take 4).all (pj_oM 12 false 3) = true := by decide +kernel
set_option maxRecDepth 100000 in
theorem mk_193_2 : (((mc_193.drop 4).drop 4).take 4).all (pj_oM 12 false 3) = true := by decide +kernel
set_option maxRecDepth 100000 in
theorem mk_193_3 : ((((mc_193.drop 4).drop 4).drop 4).take 4).all (pj_oM 12 false 3) = true := by decide +kernel
set_option maxRecDepth 100000 in
theorem mk_193_4 : (((((mc_193.drop 4).drop 4).drop 4).drop 4).take 4).all (pj_oM 12 false 3) = true := by decide +kernel
set_option maxRecDepth 100000 in
theorem mk_193_5 : ((((((mc_193.drop 4).drop 4).drop 4).drop 4).drop 4).take 4).all (pj_oM 12 false 3) = true := by decide +kernel
set_option maxRecDepth 100000 in
theorem mk_193_6 : ((((((mc_193.drop 4).drop 4).drop 4).drop 4).drop 4).drop 4).all (pj_oM 12 false 3) = true := by decide +kernel
theorem mk_193 : mc_193.all (pj_oM 12 false 3) = true := (pj_sp _ 4 mk_193_0 (pj_sp _ 4 mk_193_1 (pj_sp _ 4 mk_193_2 (pj_sp _ 4 mk_193_3 (pj_sp _ 4 mk_193_4 (pj_sp _ 4 mk_193_5 mk_193_6))))))
