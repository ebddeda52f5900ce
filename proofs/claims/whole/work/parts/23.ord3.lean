set_option maxRecDepth 100000 in
theorem mk_66_0 : (mc_66).all (pj_oM 6 false 3) = true := by decide +kernel
theorem mk_66 : mc_66.all (pj_oM 6 false 3) = true := mk_66_0
set_option maxRecDepth 100000 in
theorem mk_67_0 : (mc_67).all (pj_oM 6 false 1) = true := by decide +kernel
theorem mk_67 : mc_67.all (pj_oM 6 false 1) = true := mk_67_0
set_option maxRecDepth 100000 in
theorem mk_68_0 : (mc_68).all (pj_oM 6 false 1) = true := by decide +kernel
theorem mk_68 : mc_68.all (pj_oM 6 false 1) = true := mk_68_0
set_option maxRecDepth 100000 in
theorem mk_69_0 : (mc_69).all (pj_oM 6 false 3) = true := by decide +kernel
theorem mk_69 : mc_69.all (pj_oM 6 false 3) = true := mk_69_0
set_option maxRecDepth 100000 in
theorem mk_70_0 : (mc_70).all (pj_oM 7 true 0) = true := by decide +kernel
theorem mk_70 : mc_70.all (pj_oM 7 true 0) = true := mk_70_0
set_option maxRecDepth 100000 in
theorem mk_71_0 : ((mc_71).take 4).all (pj_oM 7 false 0) = true := by decide +kernel
set_option maxRecDepth 100000 in
theorem mk_71_1 : (mc_71.drop 4).all (pj_oM 7 false 0) = true := by decide +kernel
theorem mk_71 : mc_71.all (pj_oM 7 false 0) = true := (pj_sp _ 4 mk_71_0 mk_71_1)
set_option maxRecDepth 100000 in
theorem mk_72_0 : (mc_72).all (pj_oM 7 false 1) = true := by decide +kernel
theorem mk_72 : mc_72.all (pj_oM 7 false 1) = true := mk_72_0
set_option maxRecDepth 100000 in
theorem mk_73_0 : (mc_73).all (pj_oM 7 false 1) = true := by decide +kernel
theorem mk_73 : mc_73.all (pj_oM 7 false 1) = true := mk_73_0
set_option maxRecDepth 100000 in
theorem mk_74_0 : (mc_74).all (pj_oM 7 false 1) = true := by decide +kernel
theorem mk_74 : mc_74.all (pj_oM 7 false 1) = true := mk_74_0
set_option maxRecDepth 100000 in
theorem mk_75_0 : (mc_75).all (pj_oM 7 false 1) = true := by decide +kernel
theorem mk_75 : mc_75.all (pj_oM 7 false 1) = true := mk_75_0
set_option maxRecDepth 100000 in
theorem mk_76_0 : (mc_76).all (pj_oM 7 false 1) = true := by decide +kernel
theorem mk_76 : mc_76.all (pj_oM 7 false 1) = true := mk_76_0
set_option maxRecDepth 100000 in
theorem mk_77_0 : ((mc_77).take 4).all (pj_oM 7 false 0) = true := by decide +kernel
set_option maxRecDepth 100000 in
theorem mk_77_1 : (mc_77.drop 4).all (pj_oM 7 false 0) = true := by decide +kernel
theorem mk_77 : mc_77.all (pj_oM 7 false 0) = true := (pj_sp _ 4 mk_77_0 mk_77_1)
set_option maxRecDepth 100000 in
theorem mk_78_0 : (mc_78).all (pj_oM 7 false 0) = true := by decide +kernel
theorem mk_78 : mc_78.all (pj_oM 7 false 0) = true := mk_78_0
set_option maxRecDepth 100000 in
theorem mk_79_0 : (mc_79).all (pj_oM 7 false 0) = true := by decide +kernel
theorem mk_79 : mc_79.all (pj_oM 7 false 0) = true := mk_79_0
set_option maxRecDepth 100000 in
theorem mk_80_0 : (mc_80).all (pj_oM 7 false 0) = true := by decide +kernel
theorem mk_80 : mc_80.all (pj_oM 7 false 0) = true := mk_80_0
set_option maxRecDepth 100000 in
theorem mk_81_0 : (mc_81).all (pj_oM 8 true 0) = true := by decide +kernel
theorem mk_81 : mc_81.all (pj_oM 8 true 0) = true := mk_81_0
set_option maxRecDepth 100000 in
theorem mk_82_0 : (mc_82).all (pj_oM 8 false 3) = true := by decide +kernel
theorem mk_82 : mc_82.all (pj_oM 8 false 3) = true := mk_82_0
set_option maxRecDepth 100000 in
theorem mk_83_0 : (mc_83).all (pj_oM 8 false 0) = true := by decide +kernel
theorem mk_83 : mc_83.all (pj_oM 8 false 0) = true := mk_83_0
set_option maxRecDepth 100000 in
theorem mk_84_0 : (mc_84).all (pj_oM 8 false 3) = true := by decide +kernel
theorem mk_84 : mc_84.all (pj_oM 8 false 3) = true := mk_84_0
set_option maxRecDepth 100000 in
theorem mk_85_0 : (mc_85).all (pj_oM 8 false 1) = true := by decide +kernel
theorem mk_85 : mc_85.all (pj_oM 8 false 1) = true := mk_85_0
set_option maxRecDepth 100000 in
theorem mk_86_0 : (mc_86).all (pj_oM 8 false 0) = true := by decide +kernel
theorem mk_86 : mc_86.all (pj_oM 8 false 0) = true := mk_86_0
set_option maxRecDepth 100000 in
theorem mk_87_0 : (mc_87).all (pj_oM 9 true 0) = true := by decide +kernel
theorem mk_87 : mc_87.all (pj_oM 9 true 0) = true := mk_87_0
set_option maxRecDepth 100000 in
theorem mk_88_0 : (mc_88).all (pj_oM 9 false 0) = true := by decide +kernel
theorem mk_88 : mc_88.all (pj_oM 9 false 0) = true := mk_88_0
set_option maxRecDepth 100000 in
theorem mk_89_0 : ((mc_89).take 4).all (pj_oM 9 false 3) = true := by decide +kernel
set_option maxRecDepth 100000 in
theorem mk_89_1 : (mc_89.drop 4).all (pj_oM 9 false 3) = true := by decide +kernel
theorem mk_89 : mc_89.all (pj_oM 9 false 3) = true := (pj_sp _ 4 mk_89_0 mk_89_1)
set_option maxRecDepth 100000 in
theorem mk_90_0 : (mc_90).all (pj_oM 9 false 1) = true := by decide +kernel
theorem mk_90 : mc_90.all (pj_oM 9 false 1) = true := mk_90_0
set_option maxRecDepth 100000 in
theorem mk_91_0 : ((mc_91).take 4).all (pj_oM 9 false 0) = true := by decide +kernel
set_option maxRecDepth 100000 in
theorem mk_91_1 : (mc_91.drop 4).all (pj_oM 9 false 0) = true := by decide +kernel
theorem mk_91 : mc_91.all (pj_oM 9 false 0) = true := (pj_sp _ 4 mk_91_0 mk_91_1)
set_option maxRecDepth 100000 in
theorem mk_92_0 : (mc_92).all (pj_oM 9 false 1) = true := by decide +kernel
theorem mk_92 : mc_92.all (pj_oM 9 false 1) = true := mk_92_0
set_option maxRecDepth 100000 in
theorem mk_93_0 : (mc_93).all (pj_oM 9 false 1) = true := by decide +kernel
theorem mk_93 : mc_93.all (pj_oM 9 false 1) = true := mk_93_0
set_option maxRecDepth 100000 in
theorem mk_94_0 : ((mc_94).take 4).all (pj_oM 9 false 3) = true := by decide +kernel
set_option maxRecDepth 100000 in
theorem mk_94_1 : (mc_94.drop 4).all (pj_oM 9 false 3) = true := by decide +kernel
theorem mk_94 : mc_94.all (pj_oM 9 false 3) = true := (pj_sp _ 4 mk_94_0 mk_94_1)
set_option maxRecDepth 100000 in
theorem mk_95_0 : (mc_95).all (pj_oM 9 false 1) = true := by decide +kernel
theorem mk_95 : mc_95.all (pj_oM 9 false 1) = true := mk_95_0
set_option maxRecDepth 100000 in
theorem mk_96_0 : ((mc_96).take 4).all (pj_oM 9 false 0) = true := by decide +kernel
set_option maxRecDepth 100000 in
theorem mk_96_1 : (mc_96.drop 4).all (pj_oM 9 false 0) = true := by decide +kernel
theorem mk_96 : mc_96.all (pj_oM 9 false 0) = true := (pj_sp _ 4 mk_96_0 mk_96_1)
set_option maxRecDepth 100000 in
theorem mk_97_0 : ((mc_97).take 4).all (pj_oM 9 false 1) = true := by decide +kernel
set_option maxRecDepth 100000 in
theorem mk_97_1 : (mc_97.drop 4).all (pj_oM 9 false 1) = true := by decide +kernel
theorem mk_97 : mc_97.all (pj_oM 9 false 1) = true := (pj_sp _ 4 mk_97_0 mk_97_1)
set_option maxRecDepth 100000 in
theorem mk_98_0 : ((mc_98).take 4).all (pj_oM 10 true 0) = true := by decide +kernel
set_option maxRecDepth 100000 in
theorem mk_98_1 : (mc_98.drop 4).all (pj_oM 10 true 0) = true := by decide +kernel
theorem mk_98 : mc_98.all (pj_oM 10 true 0) = true := (pj_sp _ 4 mk_98_0 mk_98_1)
set_option maxRecDepth 100000 in
theorem mk_99_0 : (mc_99).all (pj_oM 10 false 1) = true := by decide +kernel
theorem mk_99 : mc_99.all (pj_oM 10 false 1) = true := mk_99_0
set_option maxRecDepth 100000 in
theorem mk_100_0 : (mc_100).all (pj_oM 10 false 0) = true := by decide +kernel
theorem mk_100 : mc_100.all (pj_oM 10 false 0) = true := mk_100_0
set_option maxRecDepth 100000 in
theorem mk_101_0 : (mc_101).all (pj_oM 10 false 1) = true := by decide +kernel
theorem mk_101 : mc_101.all (pj_oM 10 false 1) = true := mk_101_0
set_option maxRecDepth 100000 in
theorem mk_102_0 : (mc_102).all (pj_oM 10 false 1) = true := by decide +kernel
theorem mk_102 : mc_102.all (pj_oM 10 false 1) = true := mk_102_0
set_option maxRecDepth 100000 in
theorem mk_103_0 : (mc_103).all (pj_oM 10 false 3) = true := by decide +kernel
theorem mk_103 : mc_103.all (pj_oM 10 false 3) = true := mk_103_0
set_option maxRecDepth 100000 in
theorem mk_104_0 : ((mc_104).take 4).all (pj_oM 10 false 0) = true := by decide +kernel
set_option maxRecDepth 100000 in
theorem mk_104_1 : ((mc_104.drop 4).take 4).all (pj_oM 10 false 0) = true := by decide +kernel
set_option maxRecDepth 100000 in
theorem mk_104_2 : ((mc_104.drop 4).drop 4).all (pj_oM 10 false 0) = true := by decide +kernel
theorem mk_104 : mc_104.all (pj_oM 10 false 0) = true := (pj_sp _ 4 mk_104_0 (pj_sp _ 4 mk_104_1 mk_104_2))
set_option maxRecDepth 100000 in
theorem mk_105_0 : ((mc_105).take 4).all (pj_oM 10 false 1) = true := by decide +kernel
set_option maxRecDepth 100000 in
theorem mk_105_1 : (mc_105.drop 4).all (pj_oM 10 false 1) = true := by decide +kernel
theorem mk_105 : mc_105.all (pj_oM 10 false 1) = true := (pj_sp _ 4 mk_105_0 mk_105_1)
set_option maxRecDepth 100000 in
theorem mk_106_0 : ((mc_106).take 4).all (pj_oM 10 false 1) = true := by decide +kernel
set_option maxRecDepth 100000 in
theorem mk_106_1 : ((mc_106.drop 4).take 4).all (pj_oM 10 false 1) = true := by decide +kernel
set_option maxRecDepth 100000 in
theorem mk_106_2 : ((mc_106.drop 4).drop 4).all (pj_oM 10 false 1) = true := by decide +kernel
theorem mk_106 : mc_106.all (pj_oM 10 false 1) = true := (pj_sp _ 4 mk_106_0 (pj_sp _ 4 mk_106_1 mk_106_2))
set_option maxRecDepth 100000 in
theorem mk_107_0 : ((mc_107).take 4).all (pj_oM 10 false 1) = true := by decide +kernel
set_option maxRecDepth 100000 in
theorem mk_107_1 : ((mc_107.drop 4).take 4).all (pj_oM 10 false 1) = true := by decide +kernel
set_option maxRecDepth 100000 in
theorem mk_107_2 : (((mc_107.drop 4).drop 4).take 4).all (pj_oM 10 false 1) = true := by decide +kernel
set_option maxRecDepth 100000 in
theorem mk_107_3 : (((mc_107.drop 4).drop 4).drop 4).all (pj_oM 10 false 1) = true := by decide +kernel
theorem mk_107 : mc_107.all (pj_oM 10 false 1) = true := (pj_sp _ 4 mk_107_0 (pj_sp _ 4 mk_107_1 (pj_sp _ 4 mk_107_2 mk_107_3)))
set_option maxRecDepth 100000 in
theorem mk_108_0 : (mc_108).all (pj_oM 10 false 1) = true := by decide +kernel
theorem mk_108 : mc_108.all (pj_oM 10 false 1) = true := mk_108_0
