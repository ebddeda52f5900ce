set_option maxRecDepth 100000 in
theorem md_109_0 : ((mc_109).take 4).all (pj_oD prog_12_method_10_code) = true := by decide +kernel
set_option maxRecDepth 100000 in
theorem md_109_1 : (mc_109.drop 4).all (pj_oD prog_12_method_10_code) = true := by decide +kernel
theorem md_109 : mc_109.all (pj_oD prog_12_method_10_code) = true := (pj_sp _ 4 md_109_0 md_109_1)
set_option maxRecDepth 100000 in
theorem md_110_0 : ((mc_110).take 4).all (pj_oD prog_1_method_1_code) = true := by decide +kernel
set_option maxRecDepth 100000 in
theorem md_110_1 : ((mc_110.drop 4).take 4).all (pj_oD prog_1_method_1_code) = true := by decide +kernel
set_option maxRecDepth 100000 in
theorem md_110_2 : ((mc_110.drop 4).drop 4).all (pj_oD prog_1_method_1_code) = true := by decide +kernel
theorem md_110 : mc_110.all (pj_oD prog_1_method_1_code) = true := (pj_sp _ 4 md_110_0 (pj_sp _ 4 md_110_1 md_110_2))
set_option maxRecDepth 100000 in
theorem md_111_0 : (mc_111).all (pj_oD prog_1_method_2_code) = true := by decide +kernel
theorem md_111 : mc_111.all (pj_oD prog_1_method_2_code) = true := md_111_0
set_option maxRecDepth 100000 in
theorem md_112_0 : (mc_112).all (pj_oD prog_1_method_34_code) = true := by decide +kernel
theorem md_112 : mc_112.all (pj_oD prog_1_method_34_code) = true := md_112_0
set_option maxRecDepth 100000 in
theorem md_113_0 : (mc_113).all (pj_oD prog_1_method_3_code) = true := by decide +kernel
theorem md_113 : mc_113.all (pj_oD prog_1_method_3_code) = true := md_113_0
set_option maxRecDepth 100000 in
theorem md_114_0 : (mc_114).all (pj_oD prog_1_method_35_code) = true := by decide +kernel
theorem md_114 : mc_114.all (pj_oD prog_1_method_35_code) = true := md_114_0
set_option maxRecDepth 100000 in
theorem md_115_0 : (mc_115).all (pj_oD prog_1_method_4_code) = true := by decide +kernel
theorem md_115 : mc_115.all (pj_oD prog_1_method_4_code) = true := md_115_0
set_option maxRecDepth 100000 in
theorem md_116_0 : (mc_116).all (pj_oD prog_1_method_5_code) = true := by decide +kernel
theorem md_116 : mc_116.all (pj_oD prog_1_method_5_code) = true := md_116_0
set_option maxRecDepth 100000 in
theorem md_117_0 : ((mc_117).take 4).all (pj_oD prog_1_method_6_code) = true := by decide +kernel
set_option maxRecDepth 100000 in
theorem md_117_1 : (mc_117.drop 4).all (pj_oD prog_1_method_6_code) = true := by decide +kernel
theorem md_117 : mc_117.all (pj_oD prog_1_method_6_code) = true := (pj_sp _ 4 md_117_0 md_117_1)
set_option maxRecDepth 100000 in
theorem md_118_0 : (mc_118).all (pj_oD prog_1_method_44_code) = true := by decide +kernel
theorem md_118 : mc_118.all (pj_oD prog_1_method_44_code) = true := md_118_0
set_option maxRecDepth 100000 in
theorem md_119_0 : (mc_119).all (pj_oD prog_1_method_7_code) = true := by decide +kernel
theorem md_119 : mc_119.all (pj_oD prog_1_method_7_code) = true := md_119_0
set_option maxRecDepth 100000 in
theorem md_120_0 : (mc_120).all (pj_oD prog_1_method_36_code) = true := by decide +kernel
theorem md_120 : mc_120.all (pj_oD prog_1_method_36_code) = true := md_120_0
set_option maxRecDepth 100000 in
theorem md_121_0 : (mc_121).all (pj_oD prog_1_method_48_code) = true := by decide +kernel
theorem md_121 : mc_121.all (pj_oD prog_1_method_48_code) = true := md_121_0
set_option maxRecDepth 100000 in
theorem md_122_0 : (mc_122).all (pj_oD prog_1_method_37_code) = true := by decide +kernel
theorem md_122 : mc_122.all (pj_oD prog_1_method_37_code) = true := md_122_0
set_option maxRecDepth 100000 in
theorem md_123_0 : (mc_123).all (pj_oD prog_1_method_8_code) = true := by decide +kernel
theorem md_123 : mc_123.all (pj_oD prog_1_method_8_code) = true := md_123_0
set_option maxRecDepth 100000 in
theorem md_124_0 : (mc_124).all (pj_oD prog_1_method_9_code) = true := by decide +kernel
theorem md_124 : mc_124.all (pj_oD prog_1_method_9_code) = true := md_124_0
set_option maxRecDepth 100000 in
theorem md_125_0 : (mc_125).all (pj_oD prog_1_method_10_code) = true := by decide +kernel
theorem md_125 : mc_125.all (pj_oD prog_1_method_10_code) = true := md_125_0
set_option maxRecDepth 100000 in
theorem md_126_0 : (mc_126).all (pj_oD prog_1_method_11_code) = true := by decide +kernel
theorem md_126 : mc_126.all (pj_oD prog_1_method_11_code) = true := md_126_0
set_option maxRecDepth 100000 in
theorem md_127_0 : (mc_127).all (pj_oD prog_1_method_40_code) = true := by decide +kernel
theorem md_127 : mc_127.all (pj_oD prog_1_method_40_code) = true := md_127_0
set_option maxRecDepth 100000 in
theorem md_128_0 : (mc_128).all (pj_oD prog_1_method_41_code) = true := by decide +kernel
theorem md_128 : mc_128.all (pj_oD prog_1_method_41_code) = true := md_128_0
set_option maxRecDepth 100000 in
theorem md_129_0 : (mc_129).all (pj_oD prog_1_method_12_code) = true := by decide +kernel
theorem md_129 : mc_129.all (pj_oD prog_1_method_12_code) = true := md_129_0
set_option maxRecDepth 100000 in
theorem md_130_0 : (mc_130).all (pj_oD prog_1_method_13_code) = true := by decide +kernel
theorem md_130 : mc_130.all (pj_oD prog_1_method_13_code) = true := md_130_0
set_option maxRecDepth 100000 in
theorem md_131_0 : (mc_131).all (pj_oD prog_1_method_38_code) = true := by decide +kernel
theorem md_131 : mc_131.all (pj_oD prog_1_method_38_code) = true := md_131_0
set_option maxRecDepth 100000 in
theorem md_132_0 : (mc_132).all (pj_oD prog_1_method_14_code) = true := by decide +kernel
theorem md_132 : mc_132.all (pj_oD prog_1_method_14_code) = true := md_132_0
set_option maxRecDepth 100000 in
theorem md_133_0 : ((mc_133).take 4).all (pj_oD prog_1_method_15_code) = true := by decide +kernel
set_option maxRecDepth 100000 in
theorem md_133_1 : (mc_133.drop 4).all (pj_oD prog_1_method_15_code) = true := by decide +kernel
theorem md_133 : mc_133.all (pj_oD prog_1_method_15_code) = true := (pj_sp _ 4 md_133_0 md_133_1)
set_option maxRecDepth 100000 in
theorem md_134_0 : ((mc_134).take 4).all (pj_oD prog_1_method_42_code) = true := by decide +kernel
set_option maxRecDepth 100000 in
theorem md_134_1 : (mc_134.drop 4).all (pj_oD prog_1_method_42_code) = true := by decide +kernel
theorem md_134 : mc_134.all (pj_oD prog_1_method_42_code) = true := (pj_sp _ 4 md_134_0 md_134_1)
set_option maxRecDepth 100000 in
theorem md_135_0 : (mc_135).all (pj_oD prog_1_method_43_code) = true := by decide +kernel
theorem md_135 : mc_135.all (pj_oD prog_1_method_43_code) = true := md_135_0
set_option maxRecDepth 100000 in
theorem md_136_0 : (mc_136).all (pj_oD prog_1_method_16_code) = true := by decide +kernel
theorem md_136 : mc_136.all (pj_oD prog_1_method_16_code) = true := md_136_0
set_option maxRecDepth 100000 in
theorem md_137_0 : ((mc_137).take 4).all (pj_oD prog_1_method_17_code) = true := by decide +kernel
set_option maxRecDepth 100000 in
theorem md_137_1 : (mc_137.drop 4).all (pj_oD prog_1_method_17_code) = true := by decide +kernel
theorem md_137 : mc_137.all (pj_oD prog_1_method_17_code) = true := (pj_sp _ 4 md_137_0 md_137_1)
set_option maxRecDepth 100000 in
theorem md_138_0 : (mc_138).all (pj_oD prog_1_method_18_code) = true := by decide +kernel
theorem md_138 : mc_138.all (pj_oD prog_1_method_18_code) = true := md_138_0
set_option maxRecDepth 100000 in
theorem md_139_0 : (mc_139).all (pj_oD prog_1_method_19_code) = true := by decide +kernel
theorem md_139 : mc_139.all (pj_oD prog_1_method_19_code) = true := md_139_0
set_option maxRecDepth 100000 in
theorem md_140_0 : (mc_140).all (pj_oD prog_1_method_20_code) = true := by decide +kernel
theorem md_140 : mc_140.all (pj_oD prog_1_method_20_code) = true := md_140_0
set_option maxRecDepth 100000 in
theorem md_141_0 : (mc_141).all (pj_oD prog_1_method_21_code) = true := by decide +kernel
theorem md_141 : mc_141.all (pj_oD prog_1_method_21_code) = true := md_141_0
set_option maxRecDepth 100000 in
theorem md_142_0 : (mc_142).all (pj_oD prog_1_method_22_code) = true := by decide +kernel
theorem md_142 : mc_142.all (pj_oD prog_1_method_22_code) = true := md_142_0
set_option maxRecDepth 100000 in
theorem md_143_0 : (mc_143).all (pj_oD prog_1_method_45_code) = true := by decide +kernel
theorem md_143 : mc_143.all (pj_oD prog_1_method_45_code) = true := md_143_0
set_option maxRecDepth 100000 in
theorem md_144_0 : (mc_144).all (pj_oD prog_1_method_23_code) = true := by decide +kernel
theorem md_144 : mc_144.all (pj_oD prog_1_method_23_code) = true := md_144_0
set_option maxRecDepth 100000 in
theorem md_145_0 : (mc_145).all (pj_oD prog_1_method_46_code) = true := by decide +kernel
theorem md_145 : mc_145.all (pj_oD prog_1_method_46_code) = true := md_145_0
set_option maxRecDepth 100000 in
theorem md_146_0 : (mc_146).all (pj_oD prog_1_method_47_code) = true := by decide +kernel
theorem md_146 : mc_146.all (pj_oD prog_1_method_47_code) = true := md_146_0
set_option maxRecDepth 100000 in
theorem md_147_0 : (mc_147).all (pj_oD prog_1_method_24_code) = true := by decide +kernel
theorem md_147 : mc_147.all (pj_oD prog_1_method_24_code) = true := md_147_0
set_option maxRecDepth 100000 in
theorem md_148_0 : (mc_148).all (pj_oD prog_1_method_25_code) = true := by decide +kernel
theorem md_148 : mc_148.all (pj_oD prog_1_method_25_code) = true := md_148_0
set_option maxRecDepth 100000 in
theorem md_149_0 : (mc_149).all (pj_oD prog_1_method_39_code) = true := by decide +kernel
theorem md_149 : mc_149.all (pj_oD prog_1_method_39_code) = true := md_149_0
set_option maxRecDepth 100000 in
theorem md_150_0 : (mc_150).all (pj_oD prog_1_method_26_code) = true := by decide +kernel
theorem md_150 : mc_150.all (pj_oD prog_1_method_26_code) = true := md_150_0
set_option maxRecDepth 100000 in
theorem md_151_0 : (mc_151).all (pj_oD prog_1_method_27_code) = true := by decide +kernel
theorem md_151 : mc_151.all (pj_oD prog_1_method_27_code) = true := md_151_0
set_option maxRecDepth 100000 in
theorem md_152_0 : (mc_152).all (pj_oD prog_1_method_28_code) = true := by decide +kernel
theorem md_152 : mc_152.all (pj_oD prog_1_method_28_code) = true := md_152_0
set_option maxRecDepth 100000 in
theorem md_153_0 : (mc_153).all (pj_oD prog_1_method_29_code) = true := by decide +kernel
theorem md_153 : mc_153.all (pj_oD prog_1_method_29_code) = true := md_153_0
set_option maxRecDepth 100000 in
theorem md_154_0 : (mc_154).all (pj_oD prog_1_method_30_code) = true := by decide +kernel
theorem md_154 : mc_154.all (pj_oD prog_1_method_30_code) = true := md_154_0
set_option maxRecDepth 100000 in
theorem md_155_0 : (mc_155).all (pj_oD prog_1_method_31_code) = true := by decide +kernel
theorem md_155 : mc_155.all (pj_oD prog_1_method_31_code) = true := md_155_0
set_option maxRecDepth 100000 in
theorem md_156_0 : (mc_156).all (pj_oD prog_1_method_32_code) = true := by decide +kernel
theorem md_156 : mc_156.all (pj_oD prog_1_method_32_code) = true := md_156_0
set_option maxRecDepth 100000 in
theorem md_157_0 : (mc_157).all (pj_oD prog_1_method_33_code) = true := by decide +kernel
theorem md_157 : mc_157.all (pj_oD prog_1_method_33_code) = true := md_157_0
set_option maxRecDepth 100000 in
theorem md_158_0 : ((mc_158).take 4).all (pj_oD prog_14_method_1_code) = true := by decide +kernel
set_option maxRecDepth 100000 in
theorem md_158_1 : ((mc_158.drop 4).take 4).all (pj_oD prog_14_method_1_code) = true := by decide +kernel
set_option maxRecDepth 100000 in
theorem md_158_2 : (((mc_158.drop 4).drop 4).take 4).all (pj_oD prog_14_method_1_code) = true := by decide +kernel
set_option maxRecDepth 100000 in
theorem md_158_3 : ((((mc_158.drop 4).drop 4).drop 4).take 4).all (pj_oD prog_14_method_1_code) = true := by decide +kernel
set_option maxRecDepth 100000 in
theorem md_158_4 : (((((mc_158.drop 4).drop 4).drop 4).drop 4).take 4).all (pj_oD prog_14_method_1_code) = true := by decide +kernel
set_option maxRecDepth 100000 in
theorem md_158_5 : (((((mc_158.drop 4).drop 4).drop 4).drop 4).drop 4).all (pj_oD prog_14_method_1_code) = true := by decide +kernel
theorem md_158 : mc_158.all (pj_oD prog_14_method_1_code) = true := (pj_sp _ 4 md_158_0 (pj_sp _ 4 md_158_1 (pj_sp _ 4 md_158_2 (pj_sp _ 4 md_158_3 (pj_sp _ 4 md_158_4 md_158_5)))))
