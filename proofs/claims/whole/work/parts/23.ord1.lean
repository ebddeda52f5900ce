set_option maxRecDepth 100000 in
theorem mk_0_0 : ((mc_0).take 4).all (pj_oM 13 false 3) = true := by decide +kernel
set_option maxRecDepth 100000 in
theorem mk_0_1 : ((mc_0.drop 4).take 4).all (pj_oM 13 false 3) = true := by decide +kernel
set_option maxRecDepth 100000 in
theorem mk_0_2 : (((mc_0.drop 4).drop 4).take 4).all (pj_oM 13 false 3) = true := by decide +kernel
set_option maxRecDepth 100000 in
theorem mk_0_3 : ((((mc_0.drop 4).drop 4).drop 4).take 4).all (pj_oM 13 false 3) = true := by decide +kernel
set_option maxRecDepth 100000 in
theorem mk_0_4 : (((((mc_0.drop 4).drop 4).drop 4).drop 4).take 4).all (pj_oM 13 false 3) = true := by decide +kernel
set_option maxRecDepth 100000 in
theorem mk_0_5 : ((((((mc_0.drop 4).drop 4).drop 4).drop 4).drop 4).take 4).all (pj_oM 13 false 3) = true := by decide +kernel
set_option maxRecDepth 100000 in
theorem mk_0_6 : (((((((mc_0.drop 4).drop 4).drop 4).drop 4).drop 4).drop 4).take 4).all (pj_oM 13 false 3) = true := by decide +kernel
set_option maxRecDepth 100000 in
theorem mk_0_7 : ((((((((mc_0.drop 4).drop 4).drop 4).drop 4).drop 4).drop 4).drop 4).take 4).all (pj_oM 13 false 3) = true := by decide +kernel
set_option maxRecDepth 100000 in
theorem mk_0_8 : (((((((((mc_0.drop 4).drop 4).drop 4).drop 4).drop 4).drop 4).drop 4).drop 4).take 4).all (pj_oM 13 false 3) = true := by decide +kernel
set_option maxRecDepth 100000 in
theorem mk_0_9 : ((((((((((mc_0.drop 4).drop 4).drop 4).drop 4).drop 4).drop 4).drop 4).drop 4).drop 4).take 4).all (pj_oM 13 false 3) = true := by decide +kernel
set_option maxRecDepth 100000 in
theorem mk_0_10 : (((((((((((mc_0.drop 4).drop 4).drop 4).drop 4).drop 4).drop 4).drop 4).drop 4).drop 4).drop 4).take 4).all (pj_oM 13 false 3) = true := by decide +kernel
set_option maxRecDepth 100000 in
theorem mk_0_11 : ((((((((((((mc_0.drop 4).drop 4).drop 4).drop 4).drop 4).drop 4).drop 4).drop 4).drop 4).drop 4).drop 4).take 4).all (pj_oM 13 false 3) = true := by decide +kernel
set_option maxRecDepth 100000 in
theorem mk_0_12 : (((((((((((((mc_0.drop 4).drop 4).drop 4).drop 4).drop 4).drop 4).drop 4).drop 4).drop 4).drop 4).drop 4).drop 4).take 4).all (pj_oM 13 false 3) = true := by decide +kernel
set_option maxRecDepth 100000 in
theorem mk_0_13 : ((((((((((((((mc_0.drop 4).drop 4).drop 4).drop 4).drop 4).drop 4).drop 4).drop 4).drop 4).drop 4).drop 4).drop 4).drop 4).take 4).all (pj_oM 13 false 3) = true := by decide +kernel
set_option maxRecDepth 100000 in
theorem mk_0_14 : ((((((((((((((mc_0.drop 4).drop 4).drop 4).drop 4).drop 4).drop 4).drop 4).drop 4).drop 4).drop 4).drop 4).drop 4).drop 4).drop 4).all (pj_oM 13 false 3) = true := by decide +kernel
theorem mk_0 : mc_0.all (pj_oM 13 false 3) = true := (pj_sp _ 4 mk_0_0 (pj_sp _ 4 mk_0_1 (pj_sp _ 4 mk_0_2 (pj_sp _ 4 mk_0_3 (pj_sp _ 4 mk_0_4 (pj_sp _ 4 mk_0_5 (pj_sp _ 4 mk_0_6 (pj_sp _ 4 mk_0_7 (pj_sp _ 4 mk_0_8 (pj_sp _ 4 mk_0_9 (pj_sp _ 4 mk_0_10 (pj_sp _ 4 mk_0_11 (pj_sp _ 4 mk_0_12 (pj_sp _ 4 mk_0_13 mk_0_14))))))))))))))
set_option maxRecDepth 100000 in
theorem mk_1_0 : (mc_1).all (pj_oM 0 true 0) = true := by decide +kernel
theorem mk_1 : mc_1.all (pj_oM 0 true 0) = true := mk_1_0
set_option maxRecDepth 100000 in
theorem mk_2_0 : (mc_2).all (pj_oM 0 false 0) = true := by decide +kernel
theorem mk_2 : mc_2.all (pj_oM 0 false 0) = true := mk_2_0
set_option maxRecDepth 100000 in
theorem mk_3_0 : (mc_3).all (pj_oM 0 false 0) = true := by decide +kernel
theorem mk_3 : mc_3.all (pj_oM 0 false 0) = true := mk_3_0
set_option maxRecDepth 100000 in
theorem mk_4_0 : (mc_4).all (pj_oM 0 false 0) = true := by decide +kernel
theorem mk_4 : mc_4.all (pj_oM 0 false 0) = true := mk_4_0
set_option maxRecDepth 100000 in
theorem mk_5_0 : ((mc_5).take 4).all (pj_oM 0 false 0) = true := by decide +kernel
set_option maxRecDepth 100000 in
theorem mk_5_1 : (mc_5.drop 4).all (pj_oM 0 false 0) = true := by decide +kernel
theorem mk_5 : mc_5.all (pj_oM 0 false 0) = true := (pj_sp _ 4 mk_5_0 mk_5_1)
set_option maxRecDepth 100000 in
theorem mk_6_0 : (mc_6).all (pj_oM 0 false 1) = true := by decide +kernel
theorem mk_6 : mc_6.all (pj_oM 0 false 1) = true := mk_6_0
set_option maxRecDepth 100000 in
theorem mk_7_0 : (mc_7).all (pj_oM 0 false 0) = true := by decide +kernel
theorem mk_7 : mc_7.all (pj_oM 0 false 0) = true := mk_7_0
set_option maxRecDepth 100000 in
theorem mk_8_0 : (mc_8).all (pj_oM 1 true 0) = true := by decide +kernel
theorem mk_8 : mc_8.all (pj_oM 1 true 0) = true := mk_8_0
set_option maxRecDepth 100000 in
theorem mk_9_0 : (mc_9).all (pj_oM 1 false 0) = true := by decide +kernel
theorem mk_9 : mc_9.all (pj_oM 1 false 0) = true := mk_9_0
set_option maxRecDepth 100000 in
theorem mk_10_0 : (mc_10).all (pj_oM 1 false 0) = true := by decide +kernel
theorem mk_10 : mc_10.all (pj_oM 1 false 0) = true := mk_10_0
set_option maxRecDepth 100000 in
theorem mk_11_0 : (mc_11).all (pj_oM 1 false 3) = true := by decide +kernel
theorem mk_11 : mc_11.all (pj_oM 1 false 3) = true := mk_11_0
set_option maxRecDepth 100000 in
theorem mk_12_0 : (mc_12).all (pj_oM 2 true 0) = true := by decide +kernel
theorem mk_12 : mc_12.all (pj_oM 2 true 0) = true := mk_12_0
set_option maxRecDepth 100000 in
theorem mk_13_0 : ((mc_13).take 4).all (pj_oM 2 false 0) = true := by decide +kernel
set_option maxRecDepth 100000 in
theorem mk_13_1 : ((mc_13.drop 4).take 4).all (pj_oM 2 false 0) = true := by decide +kernel
set_option maxRecDepth 100000 in
theorem mk_13_2 : ((mc_13.drop 4).drop 4).all (pj_oM 2 false 0) = true := by decide +kernel
theorem mk_13 : mc_13.all (pj_oM 2 false 0) = true := (pj_sp _ 4 mk_13_0 (pj_sp _ 4 mk_13_1 mk_13_2))
set_option maxRecDepth 100000 in
theorem mk_14_0 : (mc_14).all (pj_oM 2 false 1) = true := by decide +kernel
theorem mk_14 : mc_14.all (pj_oM 2 false 1) = true := mk_14_0
set_option maxRecDepth 100000 in
theorem mk_15_0 : (mc_15).all (pj_oM 2 false 3) = true := by decide +kernel
theorem mk_15 : mc_15.all (pj_oM 2 false 3) = true := mk_15_0
set_option maxRecDepth 100000 in
theorem mk_16_0 : (mc_16).all (pj_oM 2 false 1) = true := by decide +kernel
theorem mk_16 : mc_16.all (pj_oM 2 false 1) = true := mk_16_0
set_option maxRecDepth 100000 in
theorem mk_17_0 : (mc_17).all (pj_oM 2 false 1) = true := by decide +kernel
theorem mk_17 : mc_17.all (pj_oM 2 false 1) = true := mk_17_0
set_option maxRecDepth 100000 in
theorem mk_18_0 : ((mc_18).take 4).all (pj_oM 2 false 1) = true := by decide +kernel
set_option maxRecDepth 100000 in
theorem mk_18_1 : (mc_18.drop 4).all (pj_oM 2 false 1) = true := by decide +kernel
theorem mk_18 : mc_18.all (pj_oM 2 false 1) = true := (pj_sp _ 4 mk_18_0 mk_18_1)
set_option maxRecDepth 100000 in
theorem mk_19_0 : (mc_19).all (pj_oM 3 true 0) = true := by decide +kernel
theorem mk_19 : mc_19.all (pj_oM 3 true 0) = true := mk_19_0
set_option maxRecDepth 100000 in
theorem mk_20_0 : ((mc_20).take 4).all (pj_oM 3 false 1) = true := by decide +kernel
set_option maxRecDepth 100000 in
theorem mk_20_1 : (mc_20.drop 4).all (pj_oM 3 false 1) = true := by decide +kernel
theorem mk_20 : mc_20.all (pj_oM 3 false 1) = true := (pj_sp _ 4 mk_20_0 mk_20_1)
set_option maxRecDepth 100000 in
theorem mk_21_0 : ((mc_21).take 4).all (pj_oM 3 false 3) = true := by decide +kernel
set_option maxRecDepth 100000 in
theorem mk_21_1 : (mc_21.drop 4).all (pj_oM 3 false 3) = true := by decide +kernel
theorem mk_21 : mc_21.all (pj_oM 3 false 3) = true := (pj_sp _ 4 mk_21_0 mk_21_1)
set_option maxRecDepth 100000 in
theorem mk_22_0 : (mc_22).all (pj_oM 3 false 3) = true := by decide +kernel
theorem mk_22 : mc_22.all (pj_oM 3 false 3) = true := mk_22_0
set_option maxRecDepth 100000 in
theorem mk_23_0 : ((mc_23).take 4).all (pj_oM 3 false 3) = true := by decide +kernel
set_option maxRecDepth 100000 in
theorem mk_23_1 : (mc_23.drop 4).all (pj_oM 3 false 3) = true := by decide +kernel
theorem mk_23 : mc_23.all (pj_oM 3 false 3) = true := (pj_sp _ 4 mk_23_0 mk_23_1)
set_option maxRecDepth 100000 in
theorem mk_24_0 : ((mc_24).take 4).all (pj_oM 3 false 1) = true := by decide +kernel
set_option maxRecDepth 100000 in
theorem mk_24_1 : (mc_24.drop 4).all (pj_oM 3 false 1) = true := by decide +kernel
theorem mk_24 : mc_24.all (pj_oM 3 false 1) = true := (pj_sp _ 4 mk_24_0 mk_24_1)
