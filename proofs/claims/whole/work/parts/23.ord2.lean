set_option maxRecDepth 100000 in
theorem mk_25_0 : (mc_25).all (pj_oM 3 false 3) = true := by decide +kernel
theorem mk_25 : mc_25.all (pj_oM 3 false 3) = true := mk_25_0
set_option maxRecDepth 100000 in
theorem mk_26_0 : (mc_26).all (pj_oM 3 false 1) = true := by decide +kernel
theorem mk_26 : mc_26.all (pj_oM 3 false 1) = true := mk_26_0
set_option maxRecDepth 100000 in
theorem mk_27_0 : (mc_27).all (pj_oM 3 false 0) = true := by decide +kernel
theorem mk_27 : mc_27.all (pj_oM 3 false 0) = true := mk_27_0
set_option maxRecDepth 100000 in
theorem mk_28_0 : (mc_28).all (pj_oM 4 true 0) = true := by decide +kernel
theorem mk_28 : mc_28.all (pj_oM 4 true 0) = true := mk_28_0
set_option maxRecDepth 100000 in
theorem mk_29_0 : ((mc_29).take 4).all (pj_oM 4 false 0) = true := by decide +kernel
set_option maxRecDepth 100000 in
theorem mk_29_1 : ((mc_29.drop 4).take 4).all (pj_oM 4 false 0) = true := by decide +kernel
set_option maxRecDepth 100000 in
theorem mk_29_2 : ((mc_29.drop 4).drop 4).all (pj_oM 4 false 0) = true := by decide +kernel
theorem mk_29 : mc_29.all (pj_oM 4 false 0) = true := (pj_sp _ 4 mk_29_0 (pj_sp _ 4 mk_29_1 mk_29_2))
set_option maxRecDepth 100000 in
theorem mk_30_0 : (mc_30).all (pj_oM 4 false 0) = true := by decide +kernel
theorem mk_30 : mc_30.all (pj_oM 4 false 0) = true := mk_30_0
set_option maxRecDepth 100000 in
theorem mk_31_0 : ((mc_31).take 4).all (pj_oM 4 false 3) = true := by decide +kernel
set_option maxRecDepth 100000 in
theorem mk_31_1 : ((mc_31.drop 4).take 4).all (pj_oM 4 false 3) = true := by decide +kernel
set_option maxRecDepth 100000 in
theorem mk_31_2 : ((mc_31.drop 4).drop 4).all (pj_oM 4 false 3) = true := by decide +kernel
theorem mk_31 : mc_31.all (pj_oM 4 false 3) = true := (pj_sp _ 4 mk_31_0 (pj_sp _ 4 mk_31_1 mk_31_2))
set_option maxRecDepth 100000 in
theorem mk_32_0 : (mc_32).all (pj_oM 4 false 3) = true := by decide +kernel
theorem mk_32 : mc_32.all (pj_oM 4 false 3) = true := mk_32_0
set_option maxRecDepth 100000 in
theorem mk_33_0 : (mc_33).all (pj_oM 4 false 3) = true := by decide +kernel
theorem mk_33 : mc_33.all (pj_oM 4 false 3) = true := mk_33_0
set_option maxRecDepth 100000 in
theorem mk_34_0 : ((mc_34).take 4).all (pj_oM 4 false 3) = true := by decide +kernel
set_option maxRecDepth 100000 in
theorem mk_34_1 : ((mc_34.drop 4).take 4).all (pj_oM 4 false 3) = true := by decide +kernel
set_option maxRecDepth 100000 in
theorem mk_34_2 : ((mc_34.drop 4).drop 4).all (pj_oM 4 false 3) = true := by decide +kernel
theorem mk_34 : mc_34.all (pj_oM 4 false 3) = true := (pj_sp _ 4 mk_34_0 (pj_sp _ 4 mk_34_1 mk_34_2))
set_option maxRecDepth 100000 in
theorem mk_35_0 : (mc_35).all (pj_oM 5 true 0) = true := by decide +kernel
theorem mk_35 : mc_35.all (pj_oM 5 true 0) = true := mk_35_0
set_option maxRecDepth 100000 in
theorem mk_36_0 : (mc_36).all (pj_oM 5 false 0) = true := by decide +kernel
theorem mk_36 : mc_36.all (pj_oM 5 false 0) = true := mk_36_0
set_option maxRecDepth 100000 in
theorem mk_37_0 : (mc_37).all (pj_oM 5 false 3) = true := by decide +kernel
theorem mk_37 : mc_37.all (pj_oM 5 false 3) = true := mk_37_0
set_option maxRecDepth 100000 in
theorem mk_38_0 : ((mc_38).take 4).all (pj_oM 5 false 0) = true := by decide +kernel
set_option maxRecDepth 100000 in
theorem mk_38_1 : (mc_38.drop 4).all (pj_oM 5 false 0) = true := by decide +kernel
theorem mk_38 : mc_38.all (pj_oM 5 false 0) = true := (pj_sp _ 4 mk_38_0 mk_38_1)
set_option maxRecDepth 100000 in
theorem mk_39_0 : (mc_39).all (pj_oM 5 false 0) = true := by decide +kernel
theorem mk_39 : mc_39.all (pj_oM 5 false 0) = true := mk_39_0
set_option maxRecDepth 100000 in
theorem mk_40_0 : ((mc_40).take 4).all (pj_oM 5 false 0) = true := by decide +kernel
set_option maxRecDepth 100000 in
theorem mk_40_1 : (mc_40.drop 4).all (pj_oM 5 false 0) = true := by decide +kernel
theorem mk_40 : mc_40.all (pj_oM 5 false 0) = true := (pj_sp _ 4 mk_40_0 mk_40_1)
set_option maxRecDepth 100000 in
theorem mk_41_0 : (mc_41).all (pj_oM 5 false 1) = true := by decide +kernel
theorem mk_41 : mc_41.all (pj_oM 5 false 1) = true := mk_41_0
set_option maxRecDepth 100000 in
theorem mk_42_0 : (mc_42).all (pj_oM 5 false 1) = true := by decide +kernel
theorem mk_42 : mc_42.all (pj_oM 5 false 1) = true := mk_42_0
set_option maxRecDepth 100000 in
theorem mk_43_0 : (mc_43).all (pj_oM 5 false 0) = true := by decide +kernel
theorem mk_43 : mc_43.all (pj_oM 5 false 0) = true := mk_43_0
set_option maxRecDepth 100000 in
theorem mk_44_0 : (mc_44).all (pj_oM 5 false 0) = true := by decide +kernel
theorem mk_44 : mc_44.all (pj_oM 5 false 0) = true := mk_44_0
set_option maxRecDepth 100000 in
theorem mk_45_0 : (mc_45).all (pj_oM 5 false 1) = true := by decide +kernel
theorem mk_45 : mc_45.all (pj_oM 5 false 1) = true := mk_45_0
set_option maxRecDepth 100000 in
theorem mk_46_0 : ((mc_46).take 4).all (pj_oM 5 false 0) = true := by decide +kernel
set_option maxRecDepth 100000 in
theorem mk_46_1 : (mc_46.drop 4).all (pj_oM 5 false 0) = true := by decide +kernel
theorem mk_46 : mc_46.all (pj_oM 5 false 0) = true := (pj_sp _ 4 mk_46_0 mk_46_1)
set_option maxRecDepth 100000 in
theorem mk_47_0 : ((mc_47).take 4).all (pj_oM 5 false 0) = true := by decide +kernel
set_option maxRecDepth 100000 in
theorem mk_47_1 : (mc_47.drop 4).all (pj_oM 5 false 0) = true := by decide +kernel
theorem mk_47 : mc_47.all (pj_oM 5 false 0) = true := (pj_sp _ 4 mk_47_0 mk_47_1)
set_option maxRecDepth 100000 in
theorem mk_48_0 : (mc_48).all (pj_oM 5 false 0) = true := by decide +kernel
theorem mk_48 : mc_48.all (pj_oM 5 false 0) = true := mk_48_0
set_option maxRecDepth 100000 in
theorem mk_49_0 : (mc_49).all (pj_oM 5 false 0) = true := by decide +kernel
theorem mk_49 : mc_49.all (pj_oM 5 false 0) = true := mk_49_0
set_option maxRecDepth 100000 in
theorem mk_50_0 : (mc_50).all (pj_oM 5 false 0) = true := by decide +kernel
theorem mk_50 : mc_50.all (pj_oM 5 false 0) = true := mk_50_0
set_option maxRecDepth 100000 in
theorem mk_51_0 : ((mc_51).take 4).all (pj_oM 5 false 0) = true := by decide +kernel
set_option maxRecDepth 100000 in
theorem mk_51_1 : (mc_51.drop 4).all (pj_oM 5 false 0) = true := by decide +kernel
theorem mk_51 : mc_51.all (pj_oM 5 false 0) = true := (pj_sp _ 4 mk_51_0 mk_51_1)
set_option maxRecDepth 100000 in
theorem mk_52_0 : (mc_52).all (pj_oM 5 false 3) = true := by decide +kernel
theorem mk_52 : mc_52.all (pj_oM 5 false 3) = true := mk_52_0
set_option maxRecDepth 100000 in
theorem mk_53_0 : (mc_53).all (pj_oM 5 false 0) = true := by decide +kernel
theorem mk_53 : mc_53.all (pj_oM 5 false 0) = true := mk_53_0
set_option maxRecDepth 100000 in
theorem mk_54_0 : (mc_54).all (pj_oM 14 false 1) = true := by decide +kernel
theorem mk_54 : mc_54.all (pj_oM 14 false 1) = true := mk_54_0
set_option maxRecDepth 100000 in
theorem mk_55_0 : (mc_55).all (pj_oM 5 false 0) = true := by decide +kernel
theorem mk_55 : mc_55.all (pj_oM 5 false 0) = true := mk_55_0
set_option maxRecDepth 100000 in
theorem mk_56_0 : (mc_56).all (pj_oM 5 false 0) = true := by decide +kernel
theorem mk_56 : mc_56.all (pj_oM 5 false 0) = true := mk_56_0
set_option maxRecDepth 100000 in
theorem mk_57_0 : (mc_57).all (pj_oM 5 false 0) = true := by decide +kernel
theorem mk_57 : mc_57.all (pj_oM 5 false 0) = true := mk_57_0
set_option maxRecDepth 100000 in
theorem mk_58_0 : (mc_58).all (pj_oM 5 false 0) = true := by decide +kernel
theorem mk_58 : mc_58.all (pj_oM 5 false 0) = true := mk_58_0
set_option maxRecDepth 100000 in
theorem mk_59_0 : ((mc_59).take 4).all (pj_oM 5 false 0) = true := by decide +kernel
set_option maxRecDepth 100000 in
theorem mk_59_1 : (mc_59.drop 4).all (pj_oM 5 false 0) = true := by decide +kernel
theorem mk_59 : mc_59.all (pj_oM 5 false 0) = true := (pj_sp _ 4 mk_59_0 mk_59_1)
set_option maxRecDepth 100000 in
theorem mk_60_0 : (mc_60).all (pj_oM 5 false 0) = true := by decide +kernel
theorem mk_60 : mc_60.all (pj_oM 5 false 0) = true := mk_60_0
set_option maxRecDepth 100000 in
theorem mk_61_0 : (mc_61).all (pj_oM 5 false 3) = true := by decide +kernel
theorem mk_61 : mc_61.all (pj_oM 5 false 3) = true := mk_61_0
set_option maxRecDepth 100000 in
theorem mk_62_0 : (mc_62).all (pj_oM 5 false 3) = true := by decide +kernel
theorem mk_62 : mc_62.all (pj_oM 5 false 3) = true := mk_62_0
set_option maxRecDepth 100000 in
theorem mk_63_0 : ((mc_63).take 4).all (pj_oM 6 true 0) = true := by decide +kernel
set_option maxRecDepth 100000 in
theorem mk_63_1 : (mc_63.drop 4).all (pj_oM 6 true 0) = true := by decide +kernel
theorem mk_63 : mc_63.all (pj_oM 6 true 0) = true := (pj_sp _ 4 mk_63_0 mk_63_1)
set_option maxRecDepth 100000 in
theorem mk_64_0 : (mc_64).all (pj_oM 6 false 0) = true := by decide +kernel
theorem mk_64 : mc_64.all (pj_oM 6 false 0) = true := mk_64_0
set_option maxRecDepth 100000 in
theorem mk_65_0 : ((mc_65).take 4).all (pj_oM 6 false 0) = true := by decide +kernel
set_option maxRecDepth 100000 in
theorem mk_65_1 : ((mc_65.drop 4).take 4).all (pj_oM 6 false 0) = true := by decide +kernel
set_option maxRecDepth 100000 in
theorem mk_65_2 : (((mc_65.drop 4).drop 4).take 4).all (pj_oM 6 false 0) = true := by decide +kernel
set_option maxRecDepth 100000 in
theorem mk_65_3 : ((((mc_65.drop 4).drop 4).drop 4).take 4).all (pj_oM 6 false 0) = true := by decide +kernel
set_option maxRecDepth 100000 in
theorem mk_65_4 : ((((mc_65.drop 4).drop 4).drop 4).drop 4).all (pj_oM 6 false 0) = true := by decide +kernel
theorem mk_65 : mc_65.all (pj_oM 6 false 0) = true := (pj_sp _ 4 mk_65_0 (pj_sp _ 4 mk_65_1 (pj_sp _ 4 mk_65_2 (pj_sp _ 4 mk_65_3 mk_65_4))))
