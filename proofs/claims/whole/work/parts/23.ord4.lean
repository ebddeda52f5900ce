set_option maxRecDepth 100000 in
theorem mk_109_0 : ((mc_109).take 4).all (pj_oM 10 false 3) = true := by decide +kernel
set_option maxRecDepth 100000 in
theorem mk_109_1 : (mc_109.drop 4).all (pj_oM 10 false 3) = true := by decide +kernel
theorem mk_109 : mc_109.all (pj_oM 10 false 3) = true := (pj_sp _ 4 mk_109_0 mk_109_1)
set_option maxRecDepth 100000 in
theorem mk_110_0 : ((mc_110).take 4).all (pj_oM 11 true 0) = true := by decide +kernel
set_option maxRecDepth 100000 in
theorem mk_110_1 : ((mc_110.drop 4).take 4).all (pj_oM 11 true 0) = true := by decide +kernel
set_option maxRecDepth 100000 in
theorem mk_110_2 : ((mc_110.drop 4).drop 4).all (pj_oM 11 true 0) = true := by decide +kernel
theorem mk_110 : mc_110.all (pj_oM 11 true 0) = true := (pj_sp _ 4 mk_110_0 (pj_sp _ 4 mk_110_1 mk_110_2))
set_option maxRecDepth 100000 in
theorem mk_111_0 : (mc_111).all (pj_oM 11 false 1) = true := by decide +kernel
theorem mk_111 : mc_111.all (pj_oM 11 false 1) = true := mk_111_0
set_option maxRecDepth 100000 in
theorem mk_112_0 : (mc_112).all (pj_oM 11 false 1) = true := by decide +kernel
theorem mk_112 : mc_112.all (pj_oM 11 false 1) = true := mk_112_0
set_option maxRecDepth 100000 in
theorem mk_113_0 : (mc_113).all (pj_oM 11 false 3) = true := by decide +kernel
theorem mk_113 : mc_113.all (pj_oM 11 false 3) = true := mk_113_0
set_option maxRecDepth 100000 in
theorem mk_114_0 : (mc_114).all (pj_oM 11 false 3) = true := by decide +kernel
theorem mk_114 : mc_114.all (pj_oM 11 false 3) = true := mk_114_0
set_option maxRecDepth 100000 in
theorem mk_115_0 : (mc_115).all (pj_oM 11 false 1) = true := by decide +kernel
theorem mk_115 : mc_115.all (pj_oM 11 false 1) = true := mk_115_0
set_option maxRecDepth 100000 in
theorem mk_116_0 : (mc_116).all (pj_oM 11 false 1) = true := by decide +kernel
theorem mk_116 : mc_116.all (pj_oM 11 false 1) = true := mk_116_0
set_option maxRecDepth 100000 in
theorem mk_117_0 : ((mc_117).take 4).all (pj_oM 11 false 1) = true := by decide +kernel
set_option maxRecDepth 100000 in
theorem mk_117_1 : (mc_117.drop 4).all (pj_oM 11 false 1) = true := by decide +kernel
theorem mk_117 : mc_117.all (pj_oM 11 false 1) = true := (pj_sp _ 4 mk_117_0 mk_117_1)
set_option maxRecDepth 100000 in
theorem mk_118_0 : (mc_118).all (pj_oM 11 false 1) = true := by decide +kernel
theorem mk_118 : mc_118.all (pj_oM 11 false 1) = true := mk_118_0
set_option maxRecDepth 100000 in
theorem mk_119_0 : (mc_119).all (pj_oM 11 false 1) = true := by decide +kernel
theorem mk_119 : mc_119.all (pj_oM 11 false 1) = true := mk_119_0
set_option maxRecDepth 100000 in
theorem mk_120_0 : (mc_120).all (pj_oM 11 false 3) = true := by decide +kernel
theorem mk_120 : mc_120.all (pj_oM 11 false 3) = true := mk_120_0
set_option maxRecDepth 100000 in
theorem mk_121_0 : (mc_121).all (pj_oM 11 false 1) = true := by decide +kernel
theorem mk_121 : mc_121.all (pj_oM 11 false 1) = true := mk_121_0
set_option maxRecDepth 100000 in
theorem mk_122_0 : (mc_122).all (pj_oM 11 false 3) = true := by decide +kernel
theorem mk_122 : mc_122.all (pj_oM 11 false 3) = true := mk_122_0
set_option maxRecDepth 100000 in
theorem mk_123_0 : (mc_123).all (pj_oM 11 false 1) = true := by decide +kernel
theorem mk_123 : mc_123.all (pj_oM 11 false 1) = true := mk_123_0
set_option maxRecDepth 100000 in
theorem mk_124_0 : (mc_124).all (pj_oM 11 false 1) = true := by decide +kernel
theorem mk_124 : mc_124.all (pj_oM 11 false 1) = true := mk_124_0
set_option maxRecDepth 100000 in
theorem mk_125_0 : (mc_125).all (pj_oM 11 false 2) = true := by decide +kernel
theorem mk_125 : mc_125.all (pj_oM 11 false 2) = true := mk_125_0
set_option maxRecDepth 100000 in
theorem mk_126_0 : (mc_126).all (pj_oM 11 false 1) = true := by decide +kernel
theorem mk_126 : mc_126.all (pj_oM 11 false 1) = true := mk_126_0
set_option maxRecDepth 100000 in
theorem mk_127_0 : (mc_127).all (pj_oM 11 false 3) = true := by decide +kernel
theorem mk_127 : mc_127.all (pj_oM 11 false 3) = true := mk_127_0
set_option maxRecDepth 100000 in
theorem mk_128_0 : (mc_128).all (pj_oM 11 false 0) = true := by decide +kernel
theorem mk_128 : mc_128.all (pj_oM 11 false 0) = true := mk_128_0
set_option maxRecDepth 100000 in
theorem mk_129_0 : (mc_129).all (pj_oM 11 false 1) = true := by decide +kernel
theorem mk_129 : mc_129.all (pj_oM 11 false 1) = true := mk_129_0
set_option maxRecDepth 100000 in
theorem mk_130_0 : (mc_130).all (pj_oM 11 false 1) = true := by decide +kernel
theorem mk_130 : mc_130.all (pj_oM 11 false 1) = true := mk_130_0
set_option maxRecDepth 100000 in
theorem mk_131_0 : (mc_131).all (pj_oM 11 false 3) = true := by decide +kernel
theorem mk_131 : mc_131.all (pj_oM 11 false 3) = true := mk_131_0
set_option maxRecDepth 100000 in
theorem mk_132_0 : (mc_132).all (pj_oM 11 false 1) = true := by decide +kernel
theorem mk_132 : mc_132.all (pj_oM 11 false 1) = true := mk_132_0
set_option maxRecDepth 100000 in
theorem mk_133_0 : ((mc_133).take 4).all (pj_oM 11 false 1) = true := by decide +kernel
set_option maxRecDepth 100000 in
theorem mk_133_1 : (mc_133.drop 4).all (pj_oM 11 false 1) = true := by decide +kernel
theorem mk_133 : mc_133.all (pj_oM 11 false 1) = true := (pj_sp _ 4 mk_133_0 mk_133_1)
set_option maxRecDepth 100000 in
theorem mk_134_0 : ((mc_134).take 4).all (pj_oM 11 false 3) = true := by decide +kernel
set_option maxRecDepth 100000 in
theorem mk_134_1 : (mc_134.drop 4).all (pj_oM 11 false 3) = true := by decide +kernel
theorem mk_134 : mc_134.all (pj_oM 11 false 3) = true := (pj_sp _ 4 mk_134_0 mk_134_1)
set_option maxRecDepth 100000 in
theorem mk_135_0 : (mc_135).all (pj_oM 11 false 3) = true := by decide +kernel
theorem mk_135 : mc_135.all (pj_oM 11 false 3) = true := mk_135_0
set_option maxRecDepth 100000 in
theorem mk_136_0 : (mc_136).all (pj_oM 11 false 1) = true := by decide +kernel
theorem mk_136 : mc_136.all (pj_oM 11 false 1) = true := mk_136_0
set_option maxRecDepth 100000 in
theorem mk_137_0 : ((mc_137).take 4).all (pj_oM 11 false 1) = true := by decide +kernel
set_option maxRecDepth 100000 in
theorem mk_137_1 : (mc_137.drop 4).all (pj_oM 11 false 1) = true := by decide +kernel
theorem mk_137 : mc_137.all (pj_oM 11 false 1) = true := (pj_sp _ 4 mk_137_0 mk_137_1)
set_option maxRecDepth 100000 in
theorem mk_138_0 : (mc_138).all (pj_oM 11 false 1) = true := by decide +kernel
theorem mk_138 : mc_138.all (pj_oM 11 false 1) = true := mk_138_0
set_option maxRecDepth 100000 in
theorem mk_139_0 : (mc_139).all (pj_oM 11 false 1) = true := by decide +kernel
theorem mk_139 : mc_139.all (pj_oM 11 false 1) = true := mk_139_0
set_option maxRecDepth 100000 in
theorem mk_140_0 : (mc_140).all (pj_oM 11 false 1) = true := by decide +kernel
theorem mk_140 : mc_140.all (pj_oM 11 false 1) = true := mk_140_0
set_option maxRecDepth 100000 in
theorem mk_141_0 : (mc_141).all (pj_oM 11 false 1) = true := by decide +kernel
theorem mk_141 : mc_141.all (pj_oM 11 false 1) = true := mk_141_0
set_option maxRecDepth 100000 in
theorem mk_142_0 : (mc_142).all (pj_oM 11 false 1) = true := by decide +kernel
theorem mk_142 : mc_142.all (pj_oM 11 false 1) = true := mk_142_0
set_option maxRecDepth 100000 in
theorem mk_143_0 : (mc_143).all (pj_oM 11 false 0) = true := by decide +kernel
theorem mk_143 : mc_143.all (pj_oM 11 false 0) = true := mk_143_0
set_option maxRecDepth 100000 in
theorem mk_144_0 : (mc_144).all (pj_oM 11 false 1) = true := by decide +kernel
theorem mk_144 : mc_144.all (pj_oM 11 false 1) = true := mk_144_0
set_option maxRecDepth 100000 in
theorem mk_145_0 : (mc_145).all (pj_oM 11 false 3) = true := by decide +kernel
theorem mk_145 : mc_145.all (pj_oM 11 false 3) = true := mk_145_0
set_option maxRecDepth 100000 in
theorem mk_146_0 : (mc_146).all (pj_oM 11 false 1) = true := by decide +kernel
theorem mk_146 : mc_146.all (pj_oM 11 false 1) = true := mk_146_0
set_option maxRecDepth 100000 in
theorem mk_147_0 : (mc_147).all (pj_oM 11 false 3) = true := by decide +kernel
theorem mk_147 : mc_147.all (pj_oM 11 false 3) = true := mk_147_0
set_option maxRecDepth 100000 in
theorem mk_148_0 : (mc_148).all (pj_oM 11 false 3) = true := by decide +kernel
theorem mk_148 : mc_148.all (pj_oM 11 false 3) = true := mk_148_0
set_option maxRecDepth 100000 in
theorem mk_149_0 : (mc_149).all (pj_oM 11 false 3) = true := by decide +kernel
theorem mk_149 : mc_149.all (pj_oM 11 false 3) = true := mk_149_0
set_option maxRecDepth 100000 in
theorem mk_150_0 : (mc_150).all (pj_oM 11 false 3) = true := by decide +kernel
theorem mk_150 : mc_150.all (pj_oM 11 false 3) = true := mk_150_0
set_option maxRecDepth 100000 in
theorem mk_151_0 : (mc_151).all (pj_oM 11 false 3) = true := by decide +kernel
theorem mk_151 : mc_151.all (pj_oM 11 false 3) = true := mk_151_0
set_option maxRecDepth 100000 in
theorem mk_152_0 : (mc_152).all (pj_oM 11 false 3) = true := by decide +kernel
theorem mk_152 : mc_152.all (pj_oM 11 false 3) = true := mk_152_0
set_option maxRecDepth 100000 in
theorem mk_153_0 : (mc_153).all (pj_oM 11 false 1) = true := by decide +kernel
theorem mk_153 : mc_153.all (pj_oM 11 false 1) = true := mk_153_0
set_option maxRecDepth 100000 in
theorem mk_154_0 : (mc_154).all (pj_oM 11 false 1) = true := by decide +kernel
theorem mk_154 : mc_154.all (pj_oM 11 false 1) = true := mk_154_0
set_option maxRecDepth 100000 in
theorem mk_155_0 : (mc_155).all (pj_oM 11 false 1) = true := by decide +kernel
theorem mk_155 : mc_155.all (pj_oM 11 false 1) = true := mk_155_0
set_option maxRecDepth 100000 in
theorem mk_156_0 : (mc_156).all (pj_oM 11 false 3) = true := by decide +kernel
theorem mk_156 : mc_156.all (pj_oM 11 false 3) = true := mk_156_0
set_option maxRecDepth 100000 in
theorem mk_157_0 : (mc_157).all (pj_oM 11 false 1) = true := by decide +kernel
theorem mk_157 : mc_157.all (pj_oM 11 false 1) = true := mk_157_0
set_option maxRecDepth 100000 in
theorem mk_158_0 : ((mc_158).take 4).all (pj_oM 12 true 0) = true := by decide +kernel
set_option maxRecDepth 100000 in
theorem mk_158_1 : ((mc_158.drop 4).take 4).all (pj_oM 12 true 0) = true := by decide +kernel
set_option maxRecDepth 100000 in
theorem mk_158_2 : (((mc_158.drop 4).drop 4).take 4).all (pj_oM 12 true 0) = true := by decide +kernel
set_option maxRecDepth 100000 in
theorem mk_158_3 : ((((mc_158.drop 4).drop 4).drop 4).take 4).all (pj_oM 12 true 0) = true := by decide +kernel
set_option maxRecDepth 100000 in
theorem mk_158_4 : (((((mc_158.drop 4).drop 4).drop 4).drop 4).take 4).all (pj_oM 12 true 0) = true := by decide +kernel
set_option maxRecDepth 100000 in
theorem mk_158_5 : (((((mc_158.drop 4).drop 4).drop 4).drop 4).drop 4).all (pj_oM 12 true 0) = true := by decide +kernel
theorem mk_158 : mc_158.all (pj_oM 12 true 0) = true := (pj_sp _ 4 mk_158_0 (pj_sp _ 4 mk_158_1 (pj_sp _ 4 mk_158_2 (pj_sp _ 4 mk_158_3 (pj_sp _ 4 mk_158_4 mk_158_5)))))
