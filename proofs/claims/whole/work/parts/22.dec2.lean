set_option maxRecDepth 100000 in
theorem md_25_0 : (mc_25).all (pj_oD prog_5_method_4_code) = true := by decide +kernel
theorem md_25 : mc_25.all (pj_oD prog_5_method_4_code) = true := md_25_0
set_option maxRecDepth 100000 in
theorem md_26_0 : (mc_26).all (pj_oD prog_5_method_5_code) = true := by decide +kernel
theorem md_26 : mc_26.all (pj_oD prog_5_method_5_code) = true := md_26_0
set_option maxRecDepth 100000 in
theorem md_27_0 : (mc_27).all (pj_oD prog_5_method_6_code) = true := by decide +kernel
theorem md_27 : mc_27.all (pj_oD prog_5_method_6_code) = true := md_27_0
set_option maxRecDepth 100000 in
theorem md_28_0 : (mc_28).all (pj_oD prog_6_method_1_code) = true := by decide +kernel
theorem md_28 : mc_28.all (pj_oD prog_6_method_1_code) = true := md_28_0
set_option maxRecDepth 100000 in
theorem md_29_0 : ((mc_29).take 4).all (pj_oD prog_6_method_2_code) = true := by decide +kernel
set_option maxRecDepth 100000 in
theorem md_29_1 : ((mc_29.drop 4).take 4).all (pj_oD prog_6_method_2_code) = true := by decide +kernel
set_option maxRecDepth 100000 in
theorem md_29_2 : ((mc_29.drop 4).drop 4).all (pj_oD prog_6_method_2_code) = true := by decide +kernel
theorem md_29 : mc_29.all (pj_oD prog_6_method_2_code) = true := (pj_sp _ 4 md_29_0 (pj_sp _ 4 md_29_1 md_29_2))
set_option maxRecDepth 100000 in
theorem md_30_0 : (mc_30).all (pj_oD prog_6_method_3_code) = true := by decide +kernel
theorem md_30 : mc_30.all (pj_oD prog_6_method_3_code) = true := md_30_0
set_option maxRecDepth 100000 in
theorem md_31_0 : ((mc_31).take 4).all (pj_oD prog_6_method_4_code) = true := by decide +kernel
set_option maxRecDepth 100000 in
theorem md_31_1 : ((mc_31.drop 4).take 4).all (pj_oD prog_6_method_4_code) = true := by decide +kernel
set_option maxRecDepth 100000 in
theorem md_31_2 : ((mc_31.drop 4).drop 4).all (pj_oD prog_6_method_4_code) = true := by decide +kernel
theorem md_31 : mc_31.all (pj_oD prog_6_method_4_code) = true := (pj_sp _ 4 md_31_0 (pj_sp _ 4 md_31_1 md_31_2))
set_option maxRecDepth 100000 in
theorem md_32_0 : (mc_32).all (pj_oD prog_6_method_5_code) = true := by decide +kernel
theorem md_32 : mc_32.all (pj_oD prog_6_method_5_code) = true := md_32_0
set_option maxRecDepth 100000 in
theorem md_33_0 : (mc_33).all (pj_oD prog_6_method_6_code) = true := by decide +kernel
theorem md_33 : mc_33.all (pj_oD prog_6_method_6_code) = true := md_33_0
set_option maxRecDepth 100000 in
theorem md_34_0 : ((mc_34).take 4).all (pj_oD prog_6_method_7_code) = true := by decide +kernel
set_option maxRecDepth 100000 in
theorem md_34_1 : ((mc_34.drop 4).take 4).all (pj_oD prog_6_method_7_code) = true := by decide +kernel
set_option maxRecDepth 100000 in
theorem md_34_2 : ((mc_34.drop 4).drop 4).all (pj_oD prog_6_method_7_code) = true := by decide +kernel
theorem md_34 : mc_34.all (pj_oD prog_6_method_7_code) = true := (pj_sp _ 4 md_34_0 (pj_sp _ 4 md_34_1 md_34_2))
set_option maxRecDepth 100000 in
theorem md_35_0 : (mc_35).all (pj_oD prog_7_method_1_code) = true := by decide +kernel
theorem md_35 : mc_35.all (pj_oD prog_7_method_1_code) = true := md_35_0
set_option maxRecDepth 100000 in
theorem md_36_0 : (mc_36).all (pj_oD prog_7_method_3_code) = true := by decide +kernel
theorem md_36 : mc_36.all (pj_oD prog_7_method_3_code) = true := md_36_0
set_option maxRecDepth 100000 in
theorem md_37_0 : (mc_37).all (pj_oD prog_7_method_2_code) = true := by decide +kernel
theorem md_37 : mc_37.all (pj_oD prog_7_method_2_code) = true := md_37_0
set_option maxRecDepth 100000 in
theorem md_38_0 : ((mc_38).take 4).all (pj_oD prog_7_method_4_code) = true := by decide +kernel
set_option maxRecDepth 100000 in
theorem md_38_1 : (mc_38.drop 4).all (pj_oD prog_7_method_4_code) = true := by decide +kernel
theorem md_38 : mc_38.all (pj_oD prog_7_method_4_code) = true := (pj_sp _ 4 md_38_0 md_38_1)
set_option maxRecDepth 100000 in
theorem md_39_0 : (mc_39).all (pj_oD prog_7_method_27_code) = true := by decide +kernel
theorem md_39 : mc_39.all (pj_oD prog_7_method_27_code) = true := md_39_0
set_option maxRecDepth 100000 in
theorem md_40_0 : ((mc_40).take 4).all (pj_oD prog_7_method_5_code) = true := by decide +kernel
set_option maxRecDepth 100000 in
theorem md_40_1 : (mc_40.drop 4).all (pj_oD prog_7_method_5_code) = true := by decide +kernel
theorem md_40 : mc_40.all (pj_oD prog_7_method_5_code) = true := (pj_sp _ 4 md_40_0 md_40_1)
set_option maxRecDepth 100000 in
theorem md_41_0 : (mc_41).all (pj_oD prog_7_method_21_code) = true := by decide +kernel
theorem md_41 : mc_41.all (pj_oD prog_7_method_21_code) = true := md_41_0
set_option maxRecDepth 100000 in
theorem md_42_0 : (mc_42).all (pj_oD prog_7_method_22_code) = true := by decide +kernel
theorem md_42 : mc_42.all (pj_oD prog_7_method_22_code) = true := md_42_0
set_option maxRecDepth 100000 in
theorem md_43_0 : (mc_43).all (pj_oD prog_7_method_26_code) = true := by decide +kernel
theorem md_43 : mc_43.all (pj_oD prog_7_method_26_code) = true := md_43_0
set_option maxRecDepth 100000 in
theorem md_44_0 : (mc_44).all (pj_oD prog_7_method_24_code) = true := by decide +kernel
theorem md_44 : mc_44.all (pj_oD prog_7_method_24_code) = true := md_44_0
set_option maxRecDepth 100000 in
theorem md_45_0 : (mc_45).all (pj_oD prog_7_method_23_code) = true := by decide +kernel
theorem md_45 : mc_45.all (pj_oD prog_7_method_23_code) = true := md_45_0
set_option maxRecDepth 100000 in
theorem md_46_0 : ((mc_46).take 4).all (pj_oD prog_7_method_6_code) = true := by decide +kernel
set_option maxRecDepth 100000 in
theorem md_46_1 : (mc_46.drop 4).all (pj_oD prog_7_method_6_code) = true := by decide +kernel
theorem md_46 : mc_46.all (pj_oD prog_7_method_6_code) = true := (pj_sp _ 4 md_46_0 md_46_1)
set_option maxRecDepth 100000 in
theorem md_47_0 : ((mc_47).take 4).all (pj_oD prog_7_method_7_code) = true := by decide +kernel
set_option maxRecDepth 100000 in
theorem md_47_1 : (mc_47.drop 4).all (pj_oD prog_7_method_7_code) = true := by decide +kernel
theorem md_47 : mc_47.all (pj_oD prog_7_method_7_code) = true := (pj_sp _ 4 md_47_0 md_47_1)
set_option maxRecDepth 100000 in
theorem md_48_0 : (mc_48).all (pj_oD prog_7_method_8_code) = true := by decide +kernel
theorem md_48 : mc_48.all (pj_oD prog_7_method_8_code) = true := md_48_0
set_option maxRecDepth 100000 in
theorem md_49_0 : (mc_49).all (pj_oD prog_7_method_9_code) = true := by decide +kernel
theorem md_49 : mc_49.all (pj_oD prog_7_method_9_code) = true := md_49_0
set_option maxRecDepth 100000 in
theorem md_50_0 : (mc_50).all (pj_oD prog_7_method_10_code) = true := by decide +kernel
theorem md_50 : mc_50.all (pj_oD prog_7_method_10_code) = true := md_50_0
set_option maxRecDepth 100000 in
theorem md_51_0 : ((mc_51).take 4).all (pj_oD prog_7_method_11_code) = true := by decide +kernel
set_option maxRecDepth 100000 in
theorem md_51_1 : (mc_51.drop 4).all (pj_oD prog_7_method_11_code) = true := by decide +kernel
theorem md_51 : mc_51.all (pj_oD prog_7_method_11_code) = true := (pj_sp _ 4 md_51_0 md_51_1)
set_option maxRecDepth 100000 in
theorem md_52_0 : (mc_52).all (pj_oD prog_7_method_19_code) = true := by decide +kernel
theorem md_52 : mc_52.all (pj_oD prog_7_method_19_code) = true := md_52_0
set_option maxRecDepth 100000 in
theorem md_53_0 : (mc_53).all (pj_oD prog_7_method_20_code) = true := by decide +kernel
theorem md_53 : mc_53.all (pj_oD prog_7_method_20_code) = true := md_53_0
set_option maxRecDepth 100000 in
theorem md_54_0 : (mc_54).all (pj_oD prog_15_method_49_code) = true := by decide +kernel
theorem md_54 : mc_54.all (pj_oD prog_15_method_49_code) = true := md_54_0
set_option maxRecDepth 100000 in
theorem md_55_0 : (mc_55).all (pj_oD prog_7_method_25_code) = true := by decide +kernel
theorem md_55 : mc_55.all (pj_oD prog_7_method_25_code) = true := md_55_0
set_option maxRecDepth 100000 in
theorem md_56_0 : (mc_56).all (pj_oD prog_7_method_12_code) = true := by decide +kernel
theorem md_56 : mc_56.all (pj_oD prog_7_method_12_code) = true := md_56_0
set_option maxRecDepth 100000 in
theorem md_57_0 : (mc_57).all (pj_oD prog_7_method_13_code) = true := by decide +kernel
theorem md_57 : mc_57.all (pj_oD prog_7_method_13_code) = true := md_57_0
set_option maxRecDepth 100000 in
theorem md_58_0 : (mc_58).all (pj_oD prog_7_method_14_code) = true := by decide +kernel
theorem md_58 : mc_58.all (pj_oD prog_7_method_14_code) = true := md_58_0
set_option maxRecDepth 100000 in
theorem md_59_0 : ((mc_59).take 4).all (pj_oD prog_7_method_16_code) = true := by decide +kernel
set_option maxRecDepth 100000 in
theorem md_59_1 : (mc_59.drop 4).all (pj_oD prog_7_method_16_code) = true := by decide +kernel
theorem md_59 : mc_59.all (pj_oD prog_7_method_16_code) = true := (pj_sp _ 4 md_59_0 md_59_1)
set_option maxRecDepth 100000 in
theorem md_60_0 : (mc_60).all (pj_oD prog_7_method_17_code) = true := by decide +kernel
theorem md_60 : mc_60.all (pj_oD prog_7_method_17_code) = true := md_60_0
set_option maxRecDepth 100000 in
theorem md_61_0 : (mc_61).all (pj_oD prog_7_method_18_code) = true := by decide +kernel
theorem md_61 : mc_61.all (pj_oD prog_7_method_18_code) = true := md_61_0
set_option maxRecDepth 100000 in
theorem md_62_0 : (mc_62).all (pj_oD prog_7_method_15_code) = true := by decide +kernel
theorem md_62 : mc_62.all (pj_oD prog_7_method_15_code) = true := md_62_0
set_option maxRecDepth 100000 in
theorem md_63_0 : ((mc_63).take 4).all (pj_oD prog_8_method_1_code) = true := by decide +kernel
set_option maxRecDepth 100000 in
theorem md_63_1 : (mc_63.drop 4).all (pj_oD prog_8_method_1_code) = true := by decide +kernel
theorem md_63 : mc_63.all (pj_oD prog_8_method_1_code) = true := (pj_sp _ 4 md_63_0 md_63_1)
set_option maxRecDepth 100000 in
theorem md_64_0 : (mc_64).all (pj_oD prog_8_method_2_code) = true := by decide +kernel
theorem md_64 : mc_64.all (pj_oD prog_8_method_2_code) = true := md_64_0
set_option maxRecDepth 100000 in
theorem md_65_0 : ((mc_65).take 4).all (pj_oD prog_8_method_3_code) = true := by decide +kernel
set_option maxRecDepth 100000 in
theorem md_65_1 : ((mc_65.drop 4).take 4).all (pj_oD prog_8_method_3_code) = true := by decide +kernel
set_option maxRecDepth 100000 in
theorem md_65_2 : (((mc_65.drop 4).drop 4).take 4).all (pj_oD prog_8_method_3_code) = true := by decide +kernel
set_option maxRecDepth 100000 in
theorem md_65_3 : ((((mc_65.drop 4).drop 4).drop 4).take 4).all (pj_oD prog_8_method_3_code) = true := by decide +kernel
set_option maxRecDepth 100000 in
theorem md_65_4 : ((((mc_65.drop 4).drop 4).drop 4).drop 4).all (pj_oD prog_8_method_3_code) = true := by decide +kernel
theorem md_65 : mc_65.all (pj_oD prog_8_method_3_code) = true := (pj_sp _ 4 md_65_0 (pj_sp _ 4 md_65_1 (pj_sp _ 4 md_65_2 (pj_sp _ 4 md_65_3 md_65_4))))
