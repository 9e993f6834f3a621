theorem tb_p31_0 : tb_ckP prog_3_method_7_code tbI31 0 = true := by decide +kernel
theorem tb_ln31 : tbI31.length = 23 := by decide +kernel
theorem tb_ckI_31 : tb_ckI prog_3_method_7_code tbI31
  | 0 => tb_p31_0
  | j + 1 => tb_ckP_ge (show tbI31.length ≤ 40 * (j + 1) from by rw [tb_ln31]; omega)
theorem tb_p32_0 : tb_ckP prog_3_method_9_code tbI32 0 = true := by decide +kernel
theorem tb_ln32 : tbI32.length = 27 := by decide +kernel
theorem tb_ckI_32 : tb_ckI prog_3_method_9_code tbI32
  | 0 => tb_p32_0
  | j + 1 => tb_ckP_ge (show tbI32.length ≤ 40 * (j + 1) from by rw [tb_ln32]; omega)
theorem tb_p33_0 : tb_ckP prog_3_method_5_code tbI33 0 = true := by decide +kernel
theorem tb_ln33 : tbI33.length = 31 := by decide +kernel
theorem tb_ckI_33 : tb_ckI prog_3_method_5_code tbI33
  | 0 => tb_p33_0
  | j + 1 => tb_ckP_ge (show tbI33.length ≤ 40 * (j + 1) from by rw [tb_ln33]; omega)
theorem tb_p34_0 : tb_ckP prog_3_method_2_code tbI34 0 = true := by decide +kernel
theorem tb_ln34 : tbI34.length = 18 := by decide +kernel
theorem tb_ckI_34 : tb_ckI prog_3_method_2_code tbI34
  | 0 => tb_p34_0
  | j + 1 => tb_ckP_ge (show tbI34.length ≤ 40 * (j + 1) from by rw [tb_ln34]; omega)
theorem tb_p35_0 : tb_ckP prog_6_method_12_code tbI35 0 = true := by decide +kernel
theorem tb_p35_1 : tb_ckP prog_6_method_12_code tbI35 40 = true := by decide +kernel
theorem tb_p35_2 : tb_ckP prog_6_method_12_code tbI35 80 = true := by decide +kernel
theorem tb_ln35 : tbI35.length = 82 := by decide +kernel
theorem tb_ckI_35 : tb_ckI prog_6_method_12_code tbI35
  | 0 => tb_p35_0
  | 1 => tb_p35_1
  | 2 => tb_p35_2
  | j + 3 => tb_ckP_ge (show tbI35.length ≤ 40 * (j + 3) from by rw [tb_ln35]; omega)
theorem tb_p36_0 : tb_ckP prog_6_method_13_code tbI36 0 = true := by decide +kernel
theorem tb_p36_1 : tb_ckP prog_6_method_13_code tbI36 40 = true := by decide +kernel
theorem tb_p36_2 : tb_ckP prog_6_method_13_code tbI36 80 = true := by decide +kernel
theorem tb_ln36 : tbI36.length = 93 := by decide +kernel
theorem tb_ckI_36 : tb_ckI prog_6_method_13_code tbI36
  | 0 => tb_p36_0
  | 1 => tb_p36_1
  | 2 => tb_p36_2
  | j + 3 => tb_ckP_ge (show tbI36.length ≤ 40 * (j + 3) from by rw [tb_ln36]; omega)
theorem tb_p37_0 : tb_ckP prog_3_method_6_code tbI37 0 = true := by decide +kernel
theorem tb_p37_1 : tb_ckP prog_3_method_6_code tbI37 40 = true := by decide +kernel
theorem tb_ln37 : tbI37.length = 45 := by decide +kernel
theorem tb_ckI_37 : tb_ckI prog_3_method_6_code tbI37
  | 0 => tb_p37_0
  | 1 => tb_p37_1
  | j + 2 => tb_ckP_ge (show tbI37.length ≤ 40 * (j + 2) from by rw [tb_ln37]; omega)
theorem tb_p38_0 : tb_ckP prog_6_method_9_code tbI38 0 = true := by decide +kernel
theorem tb_ln38 : tbI38.length = 26 := by decide +kernel
theorem tb_ckI_38 : tb_ckI prog_6_method_9_code tbI38
  | 0 => tb_p38_0
  | j + 1 => tb_ckP_ge (show tbI38.length ≤ 40 * (j + 1) from by rw [tb_ln38]; omega)
theorem tb_p39_0 : tb_ckP prog_6_method_15_code tbI39 0 = true := by decide +kernel
theorem tb_p39_1 : tb_ckP prog_6_method_15_code tbI39 40 = true := by decide +kernel
theorem tb_p39_2 : tb_ckP prog_6_method_15_code tbI39 80 = true := by decide +kernel
theorem tb_p39_3 : tb_ckP prog_6_method_15_code tbI39 120 = true := by decide +kernel
theorem tb_ln39 : tbI39.length = 132 := by decide +kernel
theorem tb_ckI_39 : tb_ckI prog_6_method_15_code tbI39
  | 0 => tb_p39_0
  | 1 => tb_p39_1
  | 2 => tb_p39_2
  | 3 => tb_p39_3
  | j + 4 => tb_ckP_ge (show tbI39.length ≤ 40 * (j + 4) from by rw [tb_ln39]; omega)
theorem tb_p40_0 : tb_ckP prog_6_method_14_code tbI40 0 = true := by decide +kernel
theorem tb_ln40 : tbI40.length = 34 := by decide +kernel
theorem tb_ckI_40 : tb_ckI prog_6_method_14_code tbI40
  | 0 => tb_p40_0
  | j + 1 => tb_ckP_ge (show tbI40.length ≤ 40 * (j + 1) from by rw [tb_ln40]; omega)
theorem tb_p41_0 : tb_ckP prog_2_method_1_code tbI41 0 = true := by decide +kernel
theorem tb_p41_1 : tb_ckP prog_2_method_1_code tbI41 40 = true := by decide +kernel
theorem tb_ln41 : tbI41.length = 62 := by decide +kernel
theorem tb_ckI_41 : tb_ckI prog_2_method_1_code tbI41
  | 0 => tb_p41_0
  | 1 => tb_p41_1
  | j + 2 => tb_ckP_ge (show tbI41.length ≤ 40 * (j + 2) from by rw [tb_ln41]; omega)
theorem tb_p42_0 : tb_ckP prog_6_method_16_code tbI42 0 = true := by decide +kernel
theorem tb_p42_1 : tb_ckP prog_6_method_16_code tbI42 40 = true := by decide +kernel
theorem tb_p42_2 : tb_ckP prog_6_method_16_code tbI42 80 = true := by decide +kernel
theorem tb_ln42 : tbI42.length = 99 := by decide +kernel
theorem tb_ckI_42 : tb_ckI prog_6_method_16_code tbI42
  | 0 => tb_p42_0
  | 1 => tb_p42_1
  | 2 => tb_p42_2
  | j + 3 => tb_ckP_ge (show tbI42.length ≤ 40 * (j + 3) from by rw [tb_ln42]; omega)
theorem tb_p43_0 : tb_ckP prog_2_method_2_code tbI43 0 = true := by decide +kernel
theorem tb_p43_1 : tb_ckP prog_2_method_2_code tbI43 40 = true := by decide +kernel
theorem tb_ln43 : tbI43.length = 41 := by decide +kernel
theorem tb_ckI_43 : tb_ckI prog_2_method_2_code tbI43
  | 0 => tb_p43_0
  | 1 => tb_p43_1
  | j + 2 => tb_ckP_ge (show tbI43.length ≤ 40 * (j + 2) from by rw [tb_ln43]; omega)
theorem tb_p44_0 : tb_ckP prog_2_method_4_code tbI44 0 = true := by decide +kernel
theorem tb_p44_1 : tb_ckP prog_2_method_4_code tbI44 40 = true := by decide +kernel
theorem tb_p44_2 : tb_ckP prog_2_method_4_code tbI44 80 = true := by decide +kernel
theorem tb_p44_3 : tb_ckP prog_2_method_4_code tbI44 120 = true := by decide +kernel
theorem tb_ln44 : tbI44.length = 121 := by decide +kernel
theorem tb_ckI_44 : tb_ckI prog_2_method_4_code tbI44
  | 0 => tb_p44_0
  | 1 => tb_p44_1
  | 2 => tb_p44_2
  | 3 => tb_p44_3
  | j + 4 => tb_ckP_ge (show tbI44.length ≤ 40 * (j + 4) from by rw [tb_ln44]; omega)
theorem tb_p45_0 : tb_ckP prog_6_method_17_code tbI45 0 = true := by decide +kernel
theorem tb_p45_1 : tb_ckP prog_6_method_17_code tbI45 40 = true := by decide +kernel
theorem tb_p45_2 : tb_ckP prog_6_method_17_code tbI45 80 = true := by decide +kernel
theorem tb_p45_3 : tb_ckP prog_6_method_17_code tbI45 120 = true := by decide +kernel
theorem tb_ln45 : tbI45.length = 132 := by decide +kernel
theorem tb_ckI_45 : tb_ckI prog_6_method_17_code tbI45
  | 0 => tb_p45_0
  | 1 => tb_p45_1
  | 2 => tb_p45_2
  | 3 => tb_p45_3
  | j + 4 => tb_ckP_ge (show tbI45.length ≤ 40 * (j + 4) from by rw [tb_ln45]; omega)
theorem tb_p46_0 : tb_ckP prog_8_method_1_code tbI46 0 = true := by decide +kernel
theorem tb_p46_1 : tb_ckP prog_8_method_1_code tbI46 40 = true := by decide +kernel
theorem tb_ln46 : tbI46.length = 68 := by decide +kernel
theorem tb_ckI_46 : tb_ckI prog_8_method_1_code tbI46
  | 0 => tb_p46_0
  | 1 => tb_p46_1
  | j + 2 => tb_ckP_ge (show tbI46.length ≤ 40 * (j + 2) from by rw [tb_ln46]; omega)
theorem tb_p47_0 : tb_ckP prog_6_method_18_code tbI47 0 = true := by decide +kernel
theorem tb_p47_1 : tb_ckP prog_6_method_18_code tbI47 40 = true := by decide +kernel
theorem tb_p47_2 : tb_ckP prog_6_method_18_code tbI47 80 = true := by decide +kernel
theorem tb_p47_3 : tb_ckP prog_6_method_18_code tbI47 120 = true := by decide +kernel
theorem tb_ln47 : tbI47.length = 140 := by decide +kernel
theorem tb_ckI_47 : tb_ckI prog_6_method_18_code tbI47
  | 0 => tb_p47_0
  | 1 => tb_p47_1
  | 2 => tb_p47_2
  | 3 => tb_p47_3
  | j + 4 => tb_ckP_ge (show tbI47.length ≤ 40 * (j + 4) from by rw [tb_ln47]; omega)
theorem tb_p48_0 : tb_ckP prog_6_method_19_code tbI48 0 = true := by decide +kernel
theorem tb_ln48 : tbI48.length = 28 := by decide +kernel
theorem tb_ckI_48 : tb_ckI prog_6_method_19_code tbI48
  | 0 => tb_p48_0
  | j + 1 => tb_ckP_ge (show tbI48.length ≤ 40 * (j + 1) from by rw [tb_ln48]; omega)
theorem tb_p49_0 : tb_ckP prog_6_method_20_code tbI49 0 = true := by decide +kernel
theorem tb_p49_1 : tb_ckP prog_6_method_20_code tbI49 40 = true := by decide +kernel
theorem tb_p49_2 : tb_ckP prog_6_method_20_code tbI49 80 = true := by decide +kernel
theorem tb_p49_3 : tb_ckP prog_6_method_20_code tbI49 120 = true := by decide +kernel
theorem tb_p49_4 : tb_ckP prog_6_method_20_code tbI49 160 = true := by decide +kernel
theorem tb_p49_5 : tb_ckP prog_6_method_20_code tbI49 200 = true := by decide +kernel
theorem tb_p49_6 : tb_ckP prog_6_method_20_code tbI49 240 = true := by decide +kernel
theorem tb_ln49 : tbI49.length = 241 := by decide +kernel
theorem tb_ckI_49 : tb_ckI prog_6_method_20_code tbI49
  | 0 => tb_p49_0
  | 1 => tb_p49_1
  | 2 => tb_p49_2
  | 3 => tb_p49_3
  | 4 => tb_p49_4
  | 5 => tb_p49_5
  | 6 => tb_p49_6
  | j + 7 => tb_ckP_ge (show tbI49.length ≤ 40 * (j + 7) from by rw [tb_ln49]; omega)
theorem tb_p50_0 : tb_ckP prog_6_method_21_code tbI50 0 = true := by decide +kernel
theorem tb_p50_1 : tb_ckP prog_6_method_21_code tbI50 40 = true := by decide +kernel
theorem tb_p50_2 : tb_ckP prog_6_method_21_code tbI50 80 = true := by decide +kernel
theorem tb_p50_3 : tb_ckP prog_6_method_21_code tbI50 120 = true := by decide +kernel
theorem tb_p50_4 : tb_ckP prog_6_method_21_code tbI50 160 = true := by decide +kernel
theorem tb_ln50 : tbI50.length = 199 := by decide +kernel
theorem tb_ckI_50 : tb_ckI prog_6_method_21_code tbI50
  | 0 => tb_p50_0
  | 1 => tb_p50_1
  | 2 => tb_p50_2
  | 3 => tb_p50_3
  | 4 => tb_p50_4
  | j + 5 => tb_ckP_ge (show tbI50.length ≤ 40 * (j + 5) from by rw [tb_ln50]; omega)
theorem tb_p51_0 : tb_ckP prog_8_method_5_code tbI51 0 = true := by decide +kernel
theorem tb_ln51 : tbI51.length = 40 := by decide +kernel
theorem tb_ckI_51 : tb_ckI prog_8_method_5_code tbI51
  | 0 => tb_p51_0
  | j + 1 => tb_ckP_ge (show tbI51.length ≤ 40 * (j + 1) from by rw [tb_ln51]; omega)
theorem tb_p52_0 : tb_ckP prog_8_method_3_code tbI52 0 = true := by decide +kernel
theorem tb_ln52 : tbI52.length = 31 := by decide +kernel
theorem tb_ckI_52 : tb_ckI prog_8_method_3_code tbI52
  | 0 => tb_p52_0
  | j + 1 => tb_ckP_ge (show tbI52.length ≤ 40 * (j + 1) from by rw [tb_ln52]; omega)
theorem tb_p53_0 : tb_ckP prog_8_method_4_code tbI53 0 = true := by decide +kernel
theorem tb_ln53 : tbI53.length = 33 := by decide +kernel
theorem tb_ckI_53 : tb_ckI prog_8_method_4_code tbI53
  | 0 => tb_p53_0
  | j + 1 => tb_ckP_ge (show tbI53.length ≤ 40 * (j + 1) from by rw [tb_ln53]; omega)
theorem tb_p54_0 : tb_ckP prog_3_method_12_code tbI54 0 = true := by decide +kernel
theorem tb_ln54 : tbI54.length = 33 := by decide +kernel
theorem tb_ckI_54 : tb_ckI prog_3_method_12_code tbI54
  | 0 => tb_p54_0
  | j + 1 => tb_ckP_ge (show tbI54.length ≤ 40 * (j + 1) from by rw [tb_ln54]; omega)
theorem tb_p55_0 : tb_ckP prog_3_method_11_code tbI55 0 = true := by decide +kernel
theorem tb_p55_1 : tb_ckP prog_3_method_11_code tbI55 40 = true := by decide +kernel
theorem tb_ln55 : tbI55.length = 46 := by decide +kernel
theorem tb_ckI_55 : tb_ckI prog_3_method_11_code tbI55
  | 0 => tb_p55_0
  | 1 => tb_p55_1
  | j + 2 => tb_ckP_ge (show tbI55.length ≤ 40 * (j + 2) from by rw [tb_ln55]; omega)
theorem tb_p56_0 : tb_ckP prog_6_method_22_code tbI56 0 = true := by decide +kernel
theorem tb_p56_1 : tb_ckP prog_6_method_22_code tbI56 40 = true := by decide +kernel
theorem tb_p56_2 : tb_ckP prog_6_method_22_code tbI56 80 = true := by decide +kernel
theorem tb_p56_3 : tb_ckP prog_6_method_22_code tbI56 120 = true := by decide +kernel
theorem tb_ln56 : tbI56.length = 153 := by decide +kernel
theorem tb_ckI_56 : tb_ckI prog_6_method_22_code tbI56
  | 0 => tb_p56_0
  | 1 => tb_p56_1
  | 2 => tb_p56_2
  | 3 => tb_p56_3
  | j + 4 => tb_ckP_ge (show tbI56.length ≤ 40 * (j + 4) from by rw [tb_ln56]; omega)
theorem tb_p57_0 : tb_ckP prog_10_method_14_code tbI57 0 = true := by decide +kernel
theorem tb_ln57 : tbI57.length = 21 := by decide +kernel
theorem tb_ckI_57 : tb_ckI prog_10_method_14_code tbI57
  | 0 => tb_p57_0
  | j + 1 => tb_ckP_ge (show tbI57.length ≤ 40 * (j + 1) from by rw [tb_ln57]; omega)
theorem tb_p58_0 : tb_ckP prog_10_method_15_code tbI58 0 = true := by decide +kernel
theorem tb_ln58 : tbI58.length = 21 := by decide +kernel
theorem tb_ckI_58 : tb_ckI prog_10_method_15_code tbI58
  | 0 => tb_p58_0
  | j + 1 => tb_ckP_ge (show tbI58.length ≤ 40 * (j + 1) from by rw [tb_ln58]; omega)
theorem tb_p59_0 : tb_ckP prog_5_method_1_code tbI59 0 = true := by decide +kernel
theorem tb_ln59 : tbI59.length = 25 := by decide +kernel
theorem tb_ckI_59 : tb_ckI prog_5_method_1_code tbI59
  | 0 => tb_p59_0
  | j + 1 => tb_ckP_ge (show tbI59.length ≤ 40 * (j + 1) from by rw [tb_ln59]; omega)
theorem tb_p60_0 : tb_ckP prog_6_method_24_code tbI60 0 = true := by decide +kernel
theorem tb_p60_1 : tb_ckP prog_6_method_24_code tbI60 40 = true := by decide +kernel
theorem tb_ln60 : tbI60.length = 68 := by decide +kernel
theorem tb_ckI_60 : tb_ckI prog_6_method_24_code tbI60
  | 0 => tb_p60_0
  | 1 => tb_p60_1
  | j + 2 => tb_ckP_ge (show tbI60.length ≤ 40 * (j + 2) from by rw [tb_ln60]; omega)
theorem tb_p61_0 : tb_ckP prog_8_method_6_code tbI61 0 = true := by decide +kernel
theorem tb_p61_1 : tb_ckP prog_8_method_6_code tbI61 40 = true := by decide +kernel
theorem tb_ln61 : tbI61.length = 70 := by decide +kernel
theorem tb_ckI_61 : tb_ckI prog_8_method_6_code tbI61
  | 0 => tb_p61_0
  | 1 => tb_p61_1
  | j + 2 => tb_ckP_ge (show tbI61.length ≤ 40 * (j + 2) from by rw [tb_ln61]; omega)
theorem tb_p62_0 : tb_ckP prog_6_method_25_code tbI62 0 = true := by decide +kernel
theorem tb_p62_1 : tb_ckP prog_6_method_25_code tbI62 40 = true := by decide +kernel
theorem tb_p62_2 : tb_ckP prog_6_method_25_code tbI62 80 = true := by decide +kernel
theorem tb_ln62 : tbI62.length = 90 := by decide +kernel
theorem tb_ckI_62 : tb_ckI prog_6_method_25_code tbI62
  | 0 => tb_p62_0
  | 1 => tb_p62_1
  | 2 => tb_p62_2
  | j + 3 => tb_ckP_ge (show tbI62.length ≤ 40 * (j + 3) from by rw [tb_ln62]; omega)
theorem tb_p63_0 : tb_ckP prog_6_method_26_code tbI63 0 = true := by decide +kernel
theorem tb_p63_1 : tb_ckP prog_6_method_26_code tbI63 40 = true := by decide +kernel
theorem tb_ln63 : tbI63.length = 78 := by decide +kernel
theorem tb_ckI_63 : tb_ckI prog_6_method_26_code tbI63
  | 0 => tb_p63_0
  | 1 => tb_p63_1
  | j + 2 => tb_ckP_ge (show tbI63.length ≤ 40 * (j + 2) from by rw [tb_ln63]; omega)
theorem tb_p64_0 : tb_ckP prog_5_method_2_code tbI64 0 = true := by decide +kernel
theorem tb_ln64 : tbI64.length = 16 := by decide +kernel
theorem tb_ckI_64 : tb_ckI prog_5_method_2_code tbI64
  | 0 => tb_p64_0
  | j + 1 => tb_ckP_ge (show tbI64.length ≤ 40 * (j + 1) from by rw [tb_ln64]; omega)
theorem tb_p65_0 : tb_ckP prog_6_method_7_code tbI65 0 = true := by decide +kernel
theorem tb_ln65 : tbI65.length = 12 := by decide +kernel
theorem tb_ckI_65 : tb_ckI prog_6_method_7_code tbI65
  | 0 => tb_p65_0
  | j + 1 => tb_ckP_ge (show tbI65.length ≤ 40 * (j + 1) from by rw [tb_ln65]; omega)
theorem tb_p66_0 : tb_ckP prog_6_method_27_code tbI66 0 = true := by decide +kernel
theorem tb_p66_1 : tb_ckP prog_6_method_27_code tbI66 40 = true := by decide +kernel
theorem tb_p66_2 : tb_ckP prog_6_method_27_code tbI66 80 = true := by decide +kernel
theorem tb_p66_3 : tb_ckP prog_6_method_27_code tbI66 120 = true := by decide +kernel
theorem tb_p66_4 : tb_ckP prog_6_method_27_code tbI66 160 = true := by decide +kernel
theorem tb_ln66 : tbI66.length = 192 := by decide +kernel
theorem tb_ckI_66 : tb_ckI prog_6_method_27_code tbI66
  | 0 => tb_p66_0
  | 1 => tb_p66_1
  | 2 => tb_p66_2
  | 3 => tb_p66_3
  | 4 => tb_p66_4
  | j + 5 => tb_ckP_ge (show tbI66.length ≤ 40 * (j + 5) from by rw [tb_ln66]; omega)
theorem tb_p67_0 : tb_ckP prog_5_method_3_code tbI67 0 = true := by decide +kernel
theorem tb_ln67 : tbI67.length = 18 := by decide +kernel
theorem tb_ckI_67 : tb_ckI prog_5_method_3_code tbI67
  | 0 => tb_p67_0
  | j + 1 => tb_ckP_ge (show tbI67.length ≤ 40 * (j + 1) from by rw [tb_ln67]; omega)
theorem tb_p68_0 : tb_ckP prog_3_method_8_code tbI68 0 = true := by decide +kernel
theorem tb_ln68 : tbI68.length = 29 := by decide +kernel
theorem tb_ckI_68 : tb_ckI prog_3_method_8_code tbI68
  | 0 => tb_p68_0
  | j + 1 => tb_ckP_ge (show tbI68.length ≤ 40 * (j + 1) from by rw [tb_ln68]; omega)
theorem tb_p69_0 : tb_ckP prog_5_method_4_code tbI69 0 = true := by decide +kernel
theorem tb_ln69 : tbI69.length = 19 := by decide +kernel
theorem tb_ckI_69 : tb_ckI prog_5_method_4_code tbI69
  | 0 => tb_p69_0
  | j + 1 => tb_ckP_ge (show tbI69.length ≤ 40 * (j + 1) from by rw [tb_ln69]; omega)
theorem tb_p70_0 : tb_ckP prog_5_method_5_code tbI70 0 = true := by decide +kernel
theorem tb_ln70 : tbI70.length = 31 := by decide +kernel
theorem tb_ckI_70 : tb_ckI prog_5_method_5_code tbI70
  | 0 => tb_p70_0
  | j + 1 => tb_ckP_ge (show tbI70.length ≤ 40 * (j + 1) from by rw [tb_ln70]; omega)
theorem tb_p71_0 : tb_ckP prog_6_method_28_code tbI71 0 = true := by decide +kernel
theorem tb_p71_1 : tb_ckP prog_6_method_28_code tbI71 40 = true := by decide +kernel
theorem tb_p71_2 : tb_ckP prog_6_method_28_code tbI71 80 = true := by decide +kernel
theorem tb_p71_3 : tb_ckP prog_6_method_28_code tbI71 120 = true := by decide +kernel
theorem tb_p71_4 : tb_ckP prog_6_method_28_code tbI71 160 = true := by decide +kernel
theorem tb_p71_5 : tb_ckP prog_6_method_28_code tbI71 200 = true := by decide +kernel
theorem tb_ln71 : tbI71.length = 226 := by decide +kernel
theorem tb_ckI_71 : tb_ckI prog_6_method_28_code tbI71
  | 0 => tb_p71_0
  | 1 => tb_p71_1
  | 2 => tb_p71_2
  | 3 => tb_p71_3
  | 4 => tb_p71_4
  | 5 => tb_p71_5
  | j + 6 => tb_ckP_ge (show tbI71.length ≤ 40 * (j + 6) from by rw [tb_ln71]; omega)
