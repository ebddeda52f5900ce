set_option maxRecDepth 100000 in
theorem md_66_0 : (mc_66).all (pj_oD prog_8_method_6_code) = true := by decide +kernel
theorem md_66 : mc_66.all (pj_oD prog_8_method_6_code) = true := md_66_0
set_option maxRecDepth 100000 in
theorem md_67_0 : (mc_67).all (pj_oD prog_8_method_7_code) = true := by decide +kernel
theorem md_67 : mc_67.all (pj_oD prog_8_method_7_code) = true := md_67_0
set_option maxRecDepth 100000 in
theorem md_68_0 : (mc_68).all (pj_oD prog_8_method_4_code) = true := by decide +kernel
theorem md_68 : mc_68.all (pj_oD prog_8_method_4_code) = true := md_68_0
set_option maxRecDepth 100000 in
theorem md_69_0 : (mc_69).all (pj_oD prog_8_method_5_code) = true := by decide +kernel
theorem md_69 : mc_69.all (pj_oD prog_8_method_5_code) = true := md_69_0
set_option maxRecDepth 100000 in
theorem md_70_0 : (mc_70).all (pj_oD prog_9_method_1_code) = true := by decide +kernel
theorem md_70 : mc_70.all (pj_oD prog_9_method_1_code) = true := md_70_0
set_option maxRecDepth 100000 in
theorem md_71_0 : ((mc_71).take 4).all (pj_oD prog_9_method_2_code) = true := by decide +kernel
set_option maxRecDepth 100000 in
theorem md_71_1 : (mc_71.drop 4).all (pj_oD prog_9_method_2_code) = true := by decide +kernel
theorem md_71 : mc_71.all (pj_oD prog_9_method_2_code) = true := (pj_sp _ 4 md_71_0 md_71_1)
set_option maxRecDepth 100000 in
theorem md_72_0 : (mc_72).all (pj_oD prog_9_method_5_code) = true := by decide +kernel
theorem md_72 : mc_72.all (pj_oD prog_9_method_5_code) = true := md_72_0
set_option maxRecDepth 100000 in
theorem md_73_0 : (mc_73).all (pj_oD prog_9_method_7_code) = true := by decide +kernel
theorem md_73 : mc_73.all (pj_oD prog_9_method_7_code) = true := md_73_0
set_option maxRecDepth 100000 in
theorem md_74_0 : (mc_74).all (pj_oD prog_9_method_8_code) = true := by decide +kernel
theorem md_74 : mc_74.all (pj_oD prog_9_method_8_code) = true := md_74_0
set_option maxRecDepth 100000 in
theorem md_75_0 : (mc_75).all (pj_oD prog_9_method_6_code) = true := by decide +kernel
theorem md_75 : mc_75.all (pj_oD prog_9_method_6_code) = true := md_75_0
set_option maxRecDepth 100000 in
theorem md_76_0 : (mc_76).all (pj_oD prog_9_method_4_code) = true := by decide +kernel
theorem md_76 : mc_76.all (pj_oD prog_9_method_4_code) = true := md_76_0
set_option maxRecDepth 100000 in
theorem md_77_0 : ((mc_77).take 4).all (pj_oD prog_9_method_3_code) = true := by decide +kernel
set_option maxRecDepth 100000 in
theorem md_77_1 : (mc_77.drop 4).all (pj_oD prog_9_method_3_code) = true := by decide +kernel
theorem md_77 : mc_77.all (pj_oD prog_9_method_3_code) = true := (pj_sp _ 4 md_77_0 md_77_1)
set_option maxRecDepth 100000 in
theorem md_78_0 : (mc_78).all (pj_oD prog_9_method_9_code) = true := by decide +kernel
theorem md_78 : mc_78.all (pj_oD prog_9_method_9_code) = true := md_78_0
set_option maxRecDepth 100000 in
theorem md_79_0 : (mc_79).all (pj_oD prog_9_method_10_code) = true := by decide +kernel
theorem md_79 : mc_79.all (pj_oD prog_9_method_10_code) = true := md_79_0
set_option maxRecDepth 100000 in
theorem md_80_0 : (mc_80).all (pj_oD prog_9_method_11_code) = true := by decide +kernel
theorem md_80 : mc_80.all (pj_oD prog_9_method_11_code) = true := md_80_0
set_option maxRecDepth 100000 in
theorem md_81_0 : (mc_81).all (pj_oD prog_10_method_1_code) = true := by decide +kernel
theorem md_81 : mc_81.all (pj_oD prog_10_method_1_code) = true := md_81_0
set_option maxRecDepth 100000 in
theorem md_82_0 : (mc_82).all (pj_oD prog_10_method_2_code) = true := by decide +kernel
theorem md_82 : mc_82.all (pj_oD prog_10_method_2_code) = true := md_82_0
set_option maxRecDepth 100000 in
theorem md_83_0 : (mc_83).all (pj_oD prog_10_method_3_code) = true := by decide +kernel
theorem md_83 : mc_83.all (pj_oD prog_10_method_3_code) = true := md_83_0
set_option maxRecDepth 100000 in
theorem md_84_0 : (mc_84).all (pj_oD prog_10_method_4_code) = true := by decide +kernel
theorem md_84 : mc_84.all (pj_oD prog_10_method_4_code) = true := md_84_0
set_option maxRecDepth 100000 in
theorem md_85_0 : (mc_85).all (pj_oD prog_10_method_6_code) = true := by decide +kernel
theorem md_85 : mc_85.all (pj_oD prog_10_method_6_code) = true := md_85_0
set_option maxRecDepth 100000 in
theorem md_86_0 : (mc_86).all (pj_oD prog_10_method_5_code) = true := by decide +kernel
theorem md_86 : mc_86.all (pj_oD prog_10_method_5_code) = true := md_86_0
set_option maxRecDepth 100000 in
theorem md_87_0 : (mc_87).all (pj_oD prog_11_method_1_code) = true := by decide +kernel
theorem md_87 : mc_87.all (pj_oD prog_11_method_1_code) = true := md_87_0
set_option maxRecDepth 100000 in
theorem md_88_0 : (mc_88).all (pj_oD prog_11_method_2_code) = true := by decide +kernel
theorem md_88 : mc_88.all (pj_oD prog_11_method_2_code) = true := md_88_0
set_option maxRecDepth 100000 in
theorem md_89_0 : ((mc_89).take 4).all (pj_oD prog_11_method_3_code) = true := by decide +kernel
set_option maxRecDepth 100000 in
theorem md_89_1 : (mc_89.drop 4).all (pj_oD prog_11_method_3_code) = true := by decide +kernel
theorem md_89 : mc_89.all (pj_oD prog_11_method_3_code) = true := (pj_sp _ 4 md_89_0 md_89_1)
set_option maxRecDepth 100000 in
theorem md_90_0 : (mc_90).all (pj_oD prog_11_method_4_code) = true := by decide +kernel
theorem md_90 : mc_90.all (pj_oD prog_11_method_4_code) = true := md_90_0
set_option maxRecDepth 100000 in
theorem md_91_0 : ((mc_91).take 4).all (pj_oD prog_11_method_5_code) = true := by decide +kernel
set_option maxRecDepth 100000 in
theorem md_91_1 : (mc_91.drop 4).all (pj_oD prog_11_method_5_code) = true := by decide +kernel
theorem md_91 : mc_91.all (pj_oD prog_11_method_5_code) = true := (pj_sp _ 4 md_91_0 md_91_1)
set_option maxRecDepth 100000 in
theorem md_92_0 : (mc_92).all (pj_oD prog_11_method_6_code) = true := by decide +kernel
theorem md_92 : mc_92.all (pj_oD prog_11_method_6_code) = true := md_92_0
set_option maxRecDepth 100000 in
theorem md_93_0 : (mc_93).all (pj_oD prog_11_method_7_code) = true := by decide +kernel
theorem md_93 : mc_93.all (pj_oD prog_11_method_7_code) = true := md_93_0
set_option maxRecDepth 100000 in
theorem md_94_0 : ((mc_94).take 4).all (pj_oD prog_11_method_9_code) = true := by decide +kernel
set_option maxRecDepth 100000 in
theorem md_94_1 : (mc_94.drop 4).all (pj_oD prog_11_method_9_code) = true := by decide +kernel
theorem md_94 : mc_94.all (pj_oD prog_11_method_9_code) = true := (pj_sp _ 4 md_94_0 md_94_1)
set_option maxRecDepth 100000 in
theorem md_95_0 : (mc_95).all (pj_oD prog_11_method_8_code) = true := by decide +kernel
theorem md_95 : mc_95.all (pj_oD prog_11_method_8_code) = true := md_95_0
set_option maxRecDepth 100000 in
theorem md_96_0 : ((mc_96).take 4).all (pj_oD prog_11_method_10_code) = true := by decide +kernel
set_option maxRecDepth 100000 in
theorem md_96_1 : (mc_96.drop 4).all (pj_oD prog_11_method_10_code) = true := by decide +kernel
theorem md_96 : mc_96.all (pj_oD prog_11_method_10_code) = true := (pj_sp _ 4 md_96_0 md_96_1)
set_option maxRecDepth 100000 in
theorem md_97_0 : ((mc_97).take 4).all (pj_oD prog_11_method_11_code) = true := by decide +kernel
set_option maxRecDepth 100000 in
theorem md_97_1 : (mc_97.drop 4).all (pj_oD prog_11_method_11_code) = true := by decide +kernel
theorem md_97 : mc_97.all (pj_oD prog_11_method_11_code) = true := (pj_sp _ 4 md_97_0 md_97_1)
set_option maxRecDepth 100000 in
theorem md_98_0 : ((mc_98).take 4).all (pj_oD prog_12_method_1_code) = true := by decide +kernel
set_option maxRecDepth 100000 in
theorem md_98_1 : (mc_98.drop 4).all (pj_oD prog_12_method_1_code) = true := by decide +kernel
theorem md_98 : mc_98.all (pj_oD prog_12_method_1_code) = true := (pj_sp _ 4 md_98_0 md_98_1)
set_option maxRecDepth 100000 in
theorem md_99_0 : (mc_99).all (pj_oD prog_12_method_7_code) = true := by decide +kernel
theorem md_99 : mc_99.all (pj_oD prog_12_method_7_code) = true := md_99_0
set_option maxRecDepth 100000 in
theorem md_100_0 : (mc_100).all (pj_oD prog_12_method_2_code) = true := by decide +kernel
theorem md_100 : mc_100.all (pj_oD prog_12_method_2_code) = true := md_100_0
set_option maxRecDepth 100000 in
theorem md_101_0 : (mc_101).all (pj_oD prog_12_method_5_code) = true := by decide +kernel
theorem md_101 : mc_101.all (pj_oD prog_12_method_5_code) = true := md_101_0
set_option maxRecDepth 100000 in
theorem md_102_0 : (mc_102).all (pj_oD prog_12_method_6_code) = true := by decide +kernel
theorem md_102 : mc_102.all (pj_oD prog_12_method_6_code) = true := md_102_0
set_option maxRecDepth 100000 in
theorem md_103_0 : (mc_103).all (pj_oD prog_12_method_4_code) = true := by decide +kernel
theorem md_103 : mc_103.all (pj_oD prog_12_method_4_code) = true := md_103_0
set_option maxRecDepth 100000 in
theorem md_104_0 : ((mc_104).take 4).all (pj_oD prog_12_method_3_code) = true := by decide +kernel
set_option maxRecDepth 100000 in
theorem md_104_1 : ((mc_104.drop 4).take 4).all (pj_oD prog_12_method_3_code) = true := by decide +kernel
set_option maxRecDepth 100000 in
theorem md_104_2 : ((mc_104.drop 4).drop 4).all (pj_oD prog_12_method_3_code) = true := by decide +kernel
theorem md_104 : mc_104.all (pj_oD prog_12_method_3_code) = true := (pj_sp _ 4 md_104_0 (pj_sp _ 4 md_104_1 md_104_2))
set_option maxRecDepth 100000 in
theorem md_105_0 : ((mc_105).take 4).all (pj_oD prog_12_method_8_code) = true := by decide +kernel
set_option maxRecDepth 100000 in
theorem md_105_1 : (mc_105.drop 4).all (pj_oD prog_12_method_8_code) = true := by decide +kernel
theorem md_105 : mc_105.all (pj_oD prog_12_method_8_code) = true := (pj_sp _ 4 md_105_0 md_105_1)
set_option maxRecDepth 100000 in
theorem md_106_0 : ((mc_106).take 4).all (pj_oD prog_12_method_11_code) = true := by decide +kernel
set_option maxRecDepth 100000 in
theorem md_106_1 : ((mc_106.drop 4).take 4).all (pj_oD prog_12_method_11_code) = true := by decide +kernel
set_option maxRecDepth 100000 in
theorem md_106_2 : ((mc_106.drop 4).drop 4).all (pj_oD prog_12_method_11_code) = true := by decide +kernel
theorem md_106 : mc_106.all (pj_oD prog_12_method_11_code) = true := (pj_sp _ 4 md_106_0 (pj_sp _ 4 md_106_1 md_106_2))
set_option maxRecDepth 100000 in
theorem md_107_0 : ((mc_107).take 4).all (pj_oD prog_12_method_12_code) = true := by decide +kernel
set_option maxRecDepth 100000 in
theorem md_107_1 : ((mc_107.drop 4).take 4).all (pj_oD prog_12_method_12_code) = true := by decide +kernel
set_option maxRecDepth 100000 in
theorem md_107_2 : (((mc_107.drop 4).drop 4).take 4).all (pj_oD prog_12_method_12_code) = true := by decide +kernel
set_option maxRecDepth 100000 in
theorem md_107_3 : (((mc_107.drop 4).drop 4).drop 4).all (pj_oD prog_12_method_12_code) = true := by decide +kernel
theorem md_107 : mc_107.all (pj_oD prog_12_method_12_code) = true := (pj_sp _ 4 md_107_0 (pj_sp _ 4 md_107_1 (pj_sp _ 4 md_107_2 md_107_3)))
set_option maxRecDepth 100000 in
theorem md_108_0 : (mc_108).all (pj_oD prog_12_method_9_code) = true := by decide +kernel
theorem md_108 : mc_108.all (pj_oD prog_12_method_9_code) = true := md_108_0
