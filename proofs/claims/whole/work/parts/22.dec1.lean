set_option maxRecDepth 100000 in
theorem md_0_0 : ((mc_0).take 4).all (pj_oD code) = true := by decide +kernel
set_option maxRecDepth 100000 in
theorem md_0_1 : ((mc_0.drop 4).take 4).all (pj_oD code) = true := by decide +kernel
set_option maxRecDepth 100000 in
theorem md_0_2 : (((mc_0.drop 4).drop 4).take 4).all (pj_oD code) = true := by decide +kernel
set_option maxRecDepth 100000 in
theorem md_0_3 : ((((mc_0.drop 4).drop 4).drop 4).take 4).all (pj_oD code) = true := by decide +kernel
set_option maxRecDepth 100000 in
theorem md_0_4 : (((((mc_0.drop 4).drop 4).drop 4).drop 4).take 4).all (pj_oD code) = true := by decide +kernel
set_option maxRecDepth 100000 in
theorem md_0_5 : ((((((mc_0.drop 4).drop 4).drop 4).drop 4).drop 4).take 4).all (pj_oD code) = true := by decide +kernel
set_option maxRecDepth 100000 in
theorem md_0_6 : (((((((mc_0.drop 4).drop 4).drop 4).drop 4).drop 4).drop 4).take 4).all (pj_oD code) = true := by decide +kernel
set_option maxRecDepth 100000 in
theorem md_0_7 : ((((((((mc_0.drop 4).drop 4).drop 4).drop 4).drop 4).drop 4).drop 4).take 4).all (pj_oD code) = true := by decide +kernel
set_option maxRecDepth 100000 in
theorem md_0_8 : (((((((((mc_0.drop 4).drop 4).drop 4).drop 4).drop 4).drop 4).drop 4).drop 4).take 4).all (pj_oD code) = true := by decide +kernel
set_option maxRecDepth 100000 in
theorem md_0_9 : ((((((((((mc_0.drop 4).drop 4).drop 4).drop 4).drop 4).drop 4).drop 4).drop 4).drop 4).take 4).all (pj_oD code) = true := by decide +kernel
set_option maxRecDepth 100000 in
theorem md_0_10 : (((((((((((mc_0.drop 4).drop 4).drop 4).drop 4).drop 4).drop 4).drop 4).drop 4).drop 4).drop 4).take 4).all (pj_oD code) = true := by decide +kernel
set_option maxRecDepth 100000 in
theorem md_0_11 : ((((((((((((mc_0.drop 4).drop 4).drop 4).drop 4).drop 4).drop 4).drop 4).drop 4).drop 4).drop 4).drop 4).take 4).all (pj_oD code) = true := by decide +kernel
set_option maxRecDepth 100000 in
theorem md_0_12 : (((((((((((((mc_0.drop 4).drop 4).drop 4).drop 4).drop 4).drop 4).drop 4).drop 4).drop 4).drop 4).drop 4).drop 4).take 4).all (pj_oD code) = true := by decide +kernel
set_option maxRecDepth 100000 in
theorem md_0_13 : ((((((((((((((mc_0.drop 4).drop 4).drop 4).drop 4).drop 4).drop 4).drop 4).drop 4).drop 4).drop 4).drop 4).drop 4).drop 4).take 4).all (pj_oD code) = true := by decide +kernel
set_option maxRecDepth 100000 in
theorem md_0_14 : ((((((((((((((mc_0.drop 4).drop 4).drop 4).drop 4).drop 4).drop 4).drop 4).drop 4).drop 4).drop 4).drop 4).drop 4).drop 4).drop 4).all (pj_oD code) = true := by decide +kernel
theorem md_0 : mc_0.all (pj_oD code) = true := (pj_sp _ 4 md_0_0 (pj_sp _ 4 md_0_1 (pj_sp _ 4 md_0_2 (pj_sp _ 4 md_0_3 (pj_sp _ 4 md_0_4 (pj_sp _ 4 md_0_5 (pj_sp _ 4 md_0_6 (pj_sp _ 4 md_0_7 (pj_sp _ 4 md_0_8 (pj_sp _ 4 md_0_9 (pj_sp _ 4 md_0_10 (pj_sp _ 4 md_0_11 (pj_sp _ 4 md_0_12 (pj_sp _ 4 md_0_13 md_0_14))))))))))))))
set_option maxRecDepth 100000 in
theorem md_1_0 : (mc_1).all (pj_oD prog_2_method_1_code) = true := by decide +kernel
theorem md_1 : mc_1.all (pj_oD prog_2_method_1_code) = true := md_1_0
set_option maxRecDepth 100000 in
theorem md_2_0 : (mc_2).all (pj_oD prog_2_method_2_code) = true := by decide +kernel
theorem md_2 : mc_2.all (pj_oD prog_2_method_2_code) = true := md_2_0
set_option maxRecDepth 100000 in
theorem md_3_0 : (mc_3).all (pj_oD prog_2_method_3_code) = true := by decide +kernel
theorem md_3 : mc_3.all (pj_oD prog_2_method_3_code) = true := md_3_0
set_option maxRecDepth 100000 in
theorem md_4_0 : (mc_4).all (pj_oD prog_2_method_4_code) = true := by decide +kernel
theorem md_4 : mc_4.all (pj_oD prog_2_method_4_code) = true := md_4_0
set_option maxRecDepth 100000 in
theorem md_5_0 : ((mc_5).take 4).all (pj_oD prog_2_method_5_code) = true := by decide +kernel
set_option maxRecDepth 100000 in
theorem md_5_1 : (mc_5.drop 4).all (pj_oD prog_2_method_5_code) = true := by decide +kernel
theorem md_5 : mc_5.all (pj_oD prog_2_method_5_code) = true := (pj_sp _ 4 md_5_0 md_5_1)
set_option maxRecDepth 100000 in
theorem md_6_0 : (mc_6).all (pj_oD prog_2_method_7_code) = true := by decide +kernel
theorem md_6 : mc_6.all (pj_oD prog_2_method_7_code) = true := md_6_0
set_option maxRecDepth 100000 in
theorem md_7_0 : (mc_7).all (pj_oD prog_2_method_6_code) = true := by decide +kernel
theorem md_7 : mc_7.all (pj_oD prog_2_method_6_code) = true := md_7_0
set_option maxRecDepth 100000 in
theorem md_8_0 : (mc_8).all (pj_oD prog_3_method_1_code) = true := by decide +kernel
theorem md_8 : mc_8.all (pj_oD prog_3_method_1_code) = true := md_8_0
set_option maxRecDepth 100000 in
theorem md_9_0 : (mc_9).all (pj_oD prog_3_method_2_code) = true := by decide +kernel
theorem md_9 : mc_9.all (pj_oD prog_3_method_2_code) = true := md_9_0
set_option maxRecDepth 100000 in
theorem md_10_0 : (mc_10).all (pj_oD prog_3_method_3_code) = true := by decide +kernel
theorem md_10 : mc_10.all (pj_oD prog_3_method_3_code) = true := md_10_0
set_option maxRecDepth 100000 in
theorem md_11_0 : (mc_11).all (pj_oD prog_3_method_4_code) = true := by decide +kernel
theorem md_11 : mc_11.all (pj_oD prog_3_method_4_code) = true := md_11_0
set_option maxRecDepth 100000 in
theorem md_12_0 : (mc_12).all (pj_oD prog_4_method_1_code) = true := by decide +kernel
theorem md_12 : mc_12.all (pj_oD prog_4_method_1_code) = true := md_12_0
set_option maxRecDepth 100000 in
theorem md_13_0 : ((mc_13).take 4).all (pj_oD prog_4_method_2_code) = true := by decide +kernel
set_option maxRecDepth 100000 in
theorem md_13_1 : ((mc_13.drop 4).take 4).all (pj_oD prog_4_method_2_code) = true := by decide +kernel
set_option maxRecDepth 100000 in
theorem md_13_2 : ((mc_13.drop 4).drop 4).all (pj_oD prog_4_method_2_code) = true := by decide +kernel
theorem md_13 : mc_13.all (pj_oD prog_4_method_2_code) = true := (pj_sp _ 4 md_13_0 (pj_sp _ 4 md_13_1 md_13_2))
set_option maxRecDepth 100000 in
theorem md_14_0 : (mc_14).all (pj_oD prog_4_method_3_code) = true := by decide +kernel
theorem md_14 : mc_14.all (pj_oD prog_4_method_3_code) = true := md_14_0
set_option maxRecDepth 100000 in
theorem md_15_0 : (mc_15).all (pj_oD prog_4_method_4_code) = true := by decide +kernel
theorem md_15 : mc_15.all (pj_oD prog_4_method_4_code) = true := md_15_0
set_option maxRecDepth 100000 in
theorem md_16_0 : (mc_16).all (pj_oD prog_4_method_5_code) = true := by decide +kernel
theorem md_16 : mc_16.all (pj_oD prog_4_method_5_code) = true := md_16_0
set_option maxRecDepth 100000 in
theorem md_17_0 : (mc_17).all (pj_oD prog_4_method_6_code) = true := by decide +kernel
theorem md_17 : mc_17.all (pj_oD prog_4_method_6_code) = true := md_17_0
set_option maxRecDepth 100000 in
theorem md_18_0 : ((mc_18).take 4).all (pj_oD prog_4_method_7_code) = true := by decide +kernel
set_option maxRecDepth 100000 in
theorem md_18_1 : (mc_18.drop 4).all (pj_oD prog_4_method_7_code) = true := by decide +kernel
theorem md_18 : mc_18.all (pj_oD prog_4_method_7_code) = true := (pj_sp _ 4 md_18_0 md_18_1)
set_option maxRecDepth 100000 in
theorem md_19_0 : (mc_19).all (pj_oD prog_5_method_1_code) = true := by decide +kernel
theorem md_19 : mc_19.all (pj_oD prog_5_method_1_code) = true := md_19_0
set_option maxRecDepth 100000 in
theorem md_20_0 : ((mc_20).take 4).all (pj_oD prog_5_method_2_code) = true := by decide +kernel
set_option maxRecDepth 100000 in
theorem md_20_1 : (mc_20.drop 4).all (pj_oD prog_5_method_2_code) = true := by decide +kernel
theorem md_20 : mc_20.all (pj_oD prog_5_method_2_code) = true := (pj_sp _ 4 md_20_0 md_20_1)
set_option maxRecDepth 100000 in
theorem md_21_0 : ((mc_21).take 4).all (pj_oD prog_5_method_3_code) = true := by decide +kernel
set_option maxRecDepth 100000 in
theorem md_21_1 : (mc_21.drop 4).all (pj_oD prog_5_method_3_code) = true := by decide +kernel
theorem md_21 : mc_21.all (pj_oD prog_5_method_3_code) = true := (pj_sp _ 4 md_21_0 md_21_1)
set_option maxRecDepth 100000 in
theorem md_22_0 : (mc_22).all (pj_oD prog_5_method_7_code) = true := by decide +kernel
theorem md_22 : mc_22.all (pj_oD prog_5_method_7_code) = true := md_22_0
set_option maxRecDepth 100000 in
theorem md_23_0 : ((mc_23).take 4).all (pj_oD prog_5_method_8_code) = true := by decide +kernel
set_option maxRecDepth 100000 in
theorem md_23_1 : (mc_23.drop 4).all (pj_oD prog_5_method_8_code) = true := by decide +kernel
theorem md_23 : mc_23.all (pj_oD prog_5_method_8_code) = true := (pj_sp _ 4 md_23_0 md_23_1)
set_option maxRecDepth 100000 in
theorem md_24_0 : ((mc_24).take 4).all (pj_oD prog_5_method_9_code) = true := by decide +kernel
set_option maxRecDepth 100000 in
theorem md_24_1 : (mc_24.drop 4).all (pj_oD prog_5_method_9_code) = true := by decide +kernel
theorem md_24 : mc_24.all (pj_oD prog_5_method_9_code) = true := (pj_sp _ 4 md_24_0 md_24_1)
