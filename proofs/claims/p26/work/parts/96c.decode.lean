theorem tb_p72_0 : tb_ckP prog_6_method_23_code tbI72 0 = true := by decide +kernel
theorem tb_p72_1 : tb_ckP prog_6_method_23_code tbI72 40 = true := by decide +kernel
theorem tb_p72_2 : tb_ckP prog_6_method_23_code tbI72 80 = true := by decide +kernel
theorem tb_ln72 : tbI72.length = 109 := by decide +kernel
theorem tb_ckI_72 : tb_ckI prog_6_method_23_code tbI72
  | 0 => tb_p72_0
  | 1 => tb_p72_1
  | 2 => tb_p72_2
  | j + 3 => tb_ckP_ge (show tbI72.length ≤ 40 * (j + 3) from by rw [tb_ln72]; omega)
theorem tb_p73_0 : tb_ckP prog_6_method_29_code tbI73 0 = true := by decide +kernel
theorem tb_p73_1 : tb_ckP prog_6_method_29_code tbI73 40 = true := by decide +kernel
theorem tb_ln73 : tbI73.length = 70 := by decide +kernel
theorem tb_ckI_73 : tb_ckI prog_6_method_29_code tbI73
  | 0 => tb_p73_0
  | 1 => tb_p73_1
  | j + 2 => tb_ckP_ge (show tbI73.length ≤ 40 * (j + 2) from by rw [tb_ln73]; omega)
theorem tb_p74_0 : tb_ckP prog_6_method_30_code tbI74 0 = true := by decide +kernel
theorem tb_p74_1 : tb_ckP prog_6_method_30_code tbI74 40 = true := by decide +kernel
theorem tb_ln74 : tbI74.length = 79 := by decide +kernel
theorem tb_ckI_74 : tb_ckI prog_6_method_30_code tbI74
  | 0 => tb_p74_0
  | 1 => tb_p74_1
  | j + 2 => tb_ckP_ge (show tbI74.length ≤ 40 * (j + 2) from by rw [tb_ln74]; omega)
theorem tb_p75_0 : tb_ckP prog_6_method_31_code tbI75 0 = true := by decide +kernel
theorem tb_p75_1 : tb_ckP prog_6_method_31_code tbI75 40 = true := by decide +kernel
theorem tb_p75_2 : tb_ckP prog_6_method_31_code tbI75 80 = true := by decide +kernel
theorem tb_ln75 : tbI75.length = 87 := by decide +kernel
theorem tb_ckI_75 : tb_ckI prog_6_method_31_code tbI75
  | 0 => tb_p75_0
  | 1 => tb_p75_1
  | 2 => tb_p75_2
  | j + 3 => tb_ckP_ge (show tbI75.length ≤ 40 * (j + 3) from by rw [tb_ln75]; omega)
theorem tb_p76_0 : tb_ckP prog_6_method_32_code tbI76 0 = true := by decide +kernel
theorem tb_p76_1 : tb_ckP prog_6_method_32_code tbI76 40 = true := by decide +kernel
theorem tb_ln76 : tbI76.length = 55 := by decide +kernel
theorem tb_ckI_76 : tb_ckI prog_6_method_32_code tbI76
  | 0 => tb_p76_0
  | 1 => tb_p76_1
  | j + 2 => tb_ckP_ge (show tbI76.length ≤ 40 * (j + 2) from by rw [tb_ln76]; omega)
theorem tb_p77_0 : tb_ckP prog_6_method_33_code tbI77 0 = true := by decide +kernel
theorem tb_p77_1 : tb_ckP prog_6_method_33_code tbI77 40 = true := by decide +kernel
theorem tb_p77_2 : tb_ckP prog_6_method_33_code tbI77 80 = true := by decide +kernel
theorem tb_ln77 : tbI77.length = 95 := by decide +kernel
theorem tb_ckI_77 : tb_ckI prog_6_method_33_code tbI77
  | 0 => tb_p77_0
  | 1 => tb_p77_1
  | 2 => tb_p77_2
  | j + 3 => tb_ckP_ge (show tbI77.length ≤ 40 * (j + 3) from by rw [tb_ln77]; omega)
theorem tb_p78_0 : tb_ckP prog_6_method_34_code tbI78 0 = true := by decide +kernel
theorem tb_p78_1 : tb_ckP prog_6_method_34_code tbI78 40 = true := by decide +kernel
theorem tb_p78_2 : tb_ckP prog_6_method_34_code tbI78 80 = true := by decide +kernel
theorem tb_p78_3 : tb_ckP prog_6_method_34_code tbI78 120 = true := by decide +kernel
theorem tb_ln78 : tbI78.length = 154 := by decide +kernel
theorem tb_ckI_78 : tb_ckI prog_6_method_34_code tbI78
  | 0 => tb_p78_0
  | 1 => tb_p78_1
  | 2 => tb_p78_2
  | 3 => tb_p78_3
  | j + 4 => tb_ckP_ge (show tbI78.length ≤ 40 * (j + 4) from by rw [tb_ln78]; omega)
theorem tb_p79_0 : tb_ckP prog_8_method_7_code tbI79 0 = true := by decide +kernel
theorem tb_ln79 : tbI79.length = 39 := by decide +kernel
theorem tb_ckI_79 : tb_ckI prog_8_method_7_code tbI79
  | 0 => tb_p79_0
  | j + 1 => tb_ckP_ge (show tbI79.length ≤ 40 * (j + 1) from by rw [tb_ln79]; omega)
theorem tb_p80_0 : tb_ckP prog_2_method_3_code tbI80 0 = true := by decide +kernel
theorem tb_ln80 : tbI80.length = 30 := by decide +kernel
theorem tb_ckI_80 : tb_ckI prog_2_method_3_code tbI80
  | 0 => tb_p80_0
  | j + 1 => tb_ckP_ge (show tbI80.length ≤ 40 * (j + 1) from by rw [tb_ln80]; omega)
theorem tb_p81_0 : tb_ckP prog_6_method_35_code tbI81 0 = true := by decide +kernel
theorem tb_p81_1 : tb_ckP prog_6_method_35_code tbI81 40 = true := by decide +kernel
theorem tb_ln81 : tbI81.length = 69 := by decide +kernel
theorem tb_ckI_81 : tb_ckI prog_6_method_35_code tbI81
  | 0 => tb_p81_0
  | 1 => tb_p81_1
  | j + 2 => tb_ckP_ge (show tbI81.length ≤ 40 * (j + 2) from by rw [tb_ln81]; omega)
theorem tb_p82_0 : tb_ckP prog_6_method_36_code tbI82 0 = true := by decide +kernel
theorem tb_p82_1 : tb_ckP prog_6_method_36_code tbI82 40 = true := by decide +kernel
theorem tb_p82_2 : tb_ckP prog_6_method_36_code tbI82 80 = true := by decide +kernel
theorem tb_ln82 : tbI82.length = 113 := by decide +kernel
theorem tb_ckI_82 : tb_ckI prog_6_method_36_code tbI82
  | 0 => tb_p82_0
  | 1 => tb_p82_1
  | 2 => tb_p82_2
  | j + 3 => tb_ckP_ge (show tbI82.length ≤ 40 * (j + 3) from by rw [tb_ln82]; omega)
theorem tb_p83_0 : tb_ckP prog_6_method_2_code tbI83 0 = true := by decide +kernel
theorem tb_ln83 : tbI83.length = 23 := by decide +kernel
theorem tb_ckI_83 : tb_ckI prog_6_method_2_code tbI83
  | 0 => tb_p83_0
  | j + 1 => tb_ckP_ge (show tbI83.length ≤ 40 * (j + 1) from by rw [tb_ln83]; omega)
theorem tb_p84_0 : tb_ckP prog_3_method_13_code tbI84 0 = true := by decide +kernel
theorem tb_ln84 : tbI84.length = 32 := by decide +kernel
theorem tb_ckI_84 : tb_ckI prog_3_method_13_code tbI84
  | 0 => tb_p84_0
  | j + 1 => tb_ckP_ge (show tbI84.length ≤ 40 * (j + 1) from by rw [tb_ln84]; omega)
theorem tb_p85_0 : tb_ckP prog_6_method_37_code tbI85 0 = true := by decide +kernel
theorem tb_p85_1 : tb_ckP prog_6_method_37_code tbI85 40 = true := by decide +kernel
theorem tb_ln85 : tbI85.length = 68 := by decide +kernel
theorem tb_ckI_85 : tb_ckI prog_6_method_37_code tbI85
  | 0 => tb_p85_0
  | 1 => tb_p85_1
  | j + 2 => tb_ckP_ge (show tbI85.length ≤ 40 * (j + 2) from by rw [tb_ln85]; omega)
theorem tb_p86_0 : tb_ckP prog_2_method_8_code tbI86 0 = true := by decide +kernel
theorem tb_p86_1 : tb_ckP prog_2_method_8_code tbI86 40 = true := by decide +kernel
theorem tb_ln86 : tbI86.length = 45 := by decide +kernel
theorem tb_ckI_86 : tb_ckI prog_2_method_8_code tbI86
  | 0 => tb_p86_0
  | 1 => tb_p86_1
  | j + 2 => tb_ckP_ge (show tbI86.length ≤ 40 * (j + 2) from by rw [tb_ln86]; omega)
theorem tb_p87_0 : tb_ckP prog_2_method_9_code tbI87 0 = true := by decide +kernel
theorem tb_p87_1 : tb_ckP prog_2_method_9_code tbI87 40 = true := by decide +kernel
theorem tb_p87_2 : tb_ckP prog_2_method_9_code tbI87 80 = true := by decide +kernel
theorem tb_ln87 : tbI87.length = 100 := by decide +kernel
theorem tb_ckI_87 : tb_ckI prog_2_method_9_code tbI87
  | 0 => tb_p87_0
  | 1 => tb_p87_1
  | 2 => tb_p87_2
  | j + 3 => tb_ckP_ge (show tbI87.length ≤ 40 * (j + 3) from by rw [tb_ln87]; omega)
theorem tb_p88_0 : tb_ckP prog_7_method_1_code tbI88 0 = true := by decide +kernel
theorem tb_ln88 : tbI88.length = 34 := by decide +kernel
theorem tb_ckI_88 : tb_ckI prog_7_method_1_code tbI88
  | 0 => tb_p88_0
  | j + 1 => tb_ckP_ge (show tbI88.length ≤ 40 * (j + 1) from by rw [tb_ln88]; omega)
theorem tb_p89_0 : tb_ckP prog_7_method_3_code tbI89 0 = true := by decide +kernel
theorem tb_p89_1 : tb_ckP prog_7_method_3_code tbI89 40 = true := by decide +kernel
theorem tb_ln89 : tbI89.length = 56 := by decide +kernel
theorem tb_ckI_89 : tb_ckI prog_7_method_3_code tbI89
  | 0 => tb_p89_0
  | 1 => tb_p89_1
  | j + 2 => tb_ckP_ge (show tbI89.length ≤ 40 * (j + 2) from by rw [tb_ln89]; omega)
theorem tb_p90_0 : tb_ckP prog_7_method_4_code tbI90 0 = true := by decide +kernel
theorem tb_p90_1 : tb_ckP prog_7_method_4_code tbI90 40 = true := by decide +kernel
theorem tb_ln90 : tbI90.length = 74 := by decide +kernel
theorem tb_ckI_90 : tb_ckI prog_7_method_4_code tbI90
  | 0 => tb_p90_0
  | 1 => tb_p90_1
  | j + 2 => tb_ckP_ge (show tbI90.length ≤ 40 * (j + 2) from by rw [tb_ln90]; omega)
theorem tb_p91_0 : tb_ckP prog_7_method_7_code tbI91 0 = true := by decide +kernel
theorem tb_ln91 : tbI91.length = 34 := by decide +kernel
theorem tb_ckI_91 : tb_ckI prog_7_method_7_code tbI91
  | 0 => tb_p91_0
  | j + 1 => tb_ckP_ge (show tbI91.length ≤ 40 * (j + 1) from by rw [tb_ln91]; omega)
theorem tb_p92_0 : tb_ckP prog_7_method_5_code tbI92 0 = true := by decide +kernel
theorem tb_p92_1 : tb_ckP prog_7_method_5_code tbI92 40 = true := by decide +kernel
theorem tb_ln92 : tbI92.length = 57 := by decide +kernel
theorem tb_ckI_92 : tb_ckI prog_7_method_5_code tbI92
  | 0 => tb_p92_0
  | 1 => tb_p92_1
  | j + 2 => tb_ckP_ge (show tbI92.length ≤ 40 * (j + 2) from by rw [tb_ln92]; omega)
theorem tb_p93_0 : tb_ckP prog_7_method_6_code tbI93 0 = true := by decide +kernel
theorem tb_p93_1 : tb_ckP prog_7_method_6_code tbI93 40 = true := by decide +kernel
theorem tb_ln93 : tbI93.length = 55 := by decide +kernel
theorem tb_ckI_93 : tb_ckI prog_7_method_6_code tbI93
  | 0 => tb_p93_0
  | 1 => tb_p93_1
  | j + 2 => tb_ckP_ge (show tbI93.length ≤ 40 * (j + 2) from by rw [tb_ln93]; omega)
theorem tb_p94_0 : tb_ckP prog_6_method_3_code tbI94 0 = true := by decide +kernel
theorem tb_ln94 : tbI94.length = 14 := by decide +kernel
theorem tb_ckI_94 : tb_ckI prog_6_method_3_code tbI94
  | 0 => tb_p94_0
  | j + 1 => tb_ckP_ge (show tbI94.length ≤ 40 * (j + 1) from by rw [tb_ln94]; omega)
theorem tb_p95_0 : tb_ckP prog_2_method_10_code tbI95 0 = true := by decide +kernel
theorem tb_ln95 : tbI95.length = 9 := by decide +kernel
theorem tb_ckI_95 : tb_ckI prog_2_method_10_code tbI95
  | 0 => tb_p95_0
  | j + 1 => tb_ckP_ge (show tbI95.length ≤ 40 * (j + 1) from by rw [tb_ln95]; omega)
theorem tb_p96_0 : tb_ckP prog_12_method_3_code tbI96 0 = true := by decide +kernel
theorem tb_p96_1 : tb_ckP prog_12_method_3_code tbI96 40 = true := by decide +kernel
theorem tb_ln96 : tbI96.length = 75 := by decide +kernel
theorem tb_ckI_96 : tb_ckI prog_12_method_3_code tbI96
  | 0 => tb_p96_0
  | 1 => tb_p96_1
  | j + 2 => tb_ckP_ge (show tbI96.length ≤ 40 * (j + 2) from by rw [tb_ln96]; omega)
theorem tb_p97_0 : tb_ckP prog_11_method_2_code tbI97 0 = true := by decide +kernel
theorem tb_ln97 : tbI97.length = 21 := by decide +kernel
theorem tb_ckI_97 : tb_ckI prog_11_method_2_code tbI97
  | 0 => tb_p97_0
  | j + 1 => tb_ckP_ge (show tbI97.length ≤ 40 * (j + 1) from by rw [tb_ln97]; omega)
theorem tb_p98_0 : tb_ckP prog_12_method_4_code tbI98 0 = true := by decide +kernel
theorem tb_p98_1 : tb_ckP prog_12_method_4_code tbI98 40 = true := by decide +kernel
theorem tb_p98_2 : tb_ckP prog_12_method_4_code tbI98 80 = true := by decide +kernel
theorem tb_p98_3 : tb_ckP prog_12_method_4_code tbI98 120 = true := by decide +kernel
theorem tb_ln98 : tbI98.length = 146 := by decide +kernel
theorem tb_ckI_98 : tb_ckI prog_12_method_4_code tbI98
  | 0 => tb_p98_0
  | 1 => tb_p98_1
  | 2 => tb_p98_2
  | 3 => tb_p98_3
  | j + 4 => tb_ckP_ge (show tbI98.length ≤ 40 * (j + 4) from by rw [tb_ln98]; omega)
theorem tb_p99_0 : tb_ckP prog_11_method_4_code tbI99 0 = true := by decide +kernel
theorem tb_p99_1 : tb_ckP prog_11_method_4_code tbI99 40 = true := by decide +kernel
theorem tb_p99_2 : tb_ckP prog_11_method_4_code tbI99 80 = true := by decide +kernel
theorem tb_ln99 : tbI99.length = 82 := by decide +kernel
theorem tb_ckI_99 : tb_ckI prog_11_method_4_code tbI99
  | 0 => tb_p99_0
  | 1 => tb_p99_1
  | 2 => tb_p99_2
  | j + 3 => tb_ckP_ge (show tbI99.length ≤ 40 * (j + 3) from by rw [tb_ln99]; omega)
theorem tb_p100_0 : tb_ckP prog_12_method_9_code tbI100 0 = true := by decide +kernel
theorem tb_p100_1 : tb_ckP prog_12_method_9_code tbI100 40 = true := by decide +kernel
theorem tb_ln100 : tbI100.length = 60 := by decide +kernel
theorem tb_ckI_100 : tb_ckI prog_12_method_9_code tbI100
  | 0 => tb_p100_0
  | 1 => tb_p100_1
  | j + 2 => tb_ckP_ge (show tbI100.length ≤ 40 * (j + 2) from by rw [tb_ln100]; omega)
theorem tb_p101_0 : tb_ckP prog_12_method_10_code tbI101 0 = true := by decide +kernel
theorem tb_p101_1 : tb_ckP prog_12_method_10_code tbI101 40 = true := by decide +kernel
theorem tb_ln101 : tbI101.length = 58 := by decide +kernel
theorem tb_ckI_101 : tb_ckI prog_12_method_10_code tbI101
  | 0 => tb_p101_0
  | 1 => tb_p101_1
  | j + 2 => tb_ckP_ge (show tbI101.length ≤ 40 * (j + 2) from by rw [tb_ln101]; omega)
theorem tb_p102_0 : tb_ckP prog_12_method_11_code tbI102 0 = true := by decide +kernel
theorem tb_ln102 : tbI102.length = 32 := by decide +kernel
theorem tb_ckI_102 : tb_ckI prog_12_method_11_code tbI102
  | 0 => tb_p102_0
  | j + 1 => tb_ckP_ge (show tbI102.length ≤ 40 * (j + 1) from by rw [tb_ln102]; omega)
theorem tb_p103_0 : tb_ckP prog_3_method_14_code tbI103 0 = true := by decide +kernel
theorem tb_p103_1 : tb_ckP prog_3_method_14_code tbI103 40 = true := by decide +kernel
theorem tb_ln103 : tbI103.length = 58 := by decide +kernel
theorem tb_ckI_103 : tb_ckI prog_3_method_14_code tbI103
  | 0 => tb_p103_0
  | 1 => tb_p103_1
  | j + 2 => tb_ckP_ge (show tbI103.length ≤ 40 * (j + 2) from by rw [tb_ln103]; omega)
theorem tb_p104_0 : tb_ckP prog_2_method_13_code tbI104 0 = true := by decide +kernel
theorem tb_ln104 : tbI104.length = 23 := by decide +kernel
theorem tb_ckI_104 : tb_ckI prog_2_method_13_code tbI104
  | 0 => tb_p104_0
  | j + 1 => tb_ckP_ge (show tbI104.length ≤ 40 * (j + 1) from by rw [tb_ln104]; omega)
theorem tb_p105_0 : tb_ckP prog_12_method_12_code tbI105 0 = true := by decide +kernel
theorem tb_p105_1 : tb_ckP prog_12_method_12_code tbI105 40 = true := by decide +kernel
theorem tb_ln105 : tbI105.length = 79 := by decide +kernel
theorem tb_ckI_105 : tb_ckI prog_12_method_12_code tbI105
  | 0 => tb_p105_0
  | 1 => tb_p105_1
  | j + 2 => tb_ckP_ge (show tbI105.length ≤ 40 * (j + 2) from by rw [tb_ln105]; omega)
theorem tb_p106_0 : tb_ckP prog_12_method_13_code tbI106 0 = true := by decide +kernel
theorem tb_ln106 : tbI106.length = 35 := by decide +kernel
theorem tb_ckI_106 : tb_ckI prog_12_method_13_code tbI106
  | 0 => tb_p106_0
  | j + 1 => tb_ckP_ge (show tbI106.length ≤ 40 * (j + 1) from by rw [tb_ln106]; omega)
theorem tb_p107_0 : tb_ckP prog_2_method_5_code tbI107 0 = true := by decide +kernel
theorem tb_ln107 : tbI107.length = 23 := by decide +kernel
theorem tb_ckI_107 : tb_ckI prog_2_method_5_code tbI107
  | 0 => tb_p107_0
  | j + 1 => tb_ckP_ge (show tbI107.length ≤ 40 * (j + 1) from by rw [tb_ln107]; omega)
theorem tb_p108_0 : tb_ckP prog_12_method_14_code tbI108 0 = true := by decide +kernel
theorem tb_p108_1 : tb_ckP prog_12_method_14_code tbI108 40 = true := by decide +kernel
theorem tb_ln108 : tbI108.length = 75 := by decide +kernel
theorem tb_ckI_108 : tb_ckI prog_12_method_14_code tbI108
  | 0 => tb_p108_0
  | 1 => tb_p108_1
  | j + 2 => tb_ckP_ge (show tbI108.length ≤ 40 * (j + 2) from by rw [tb_ln108]; omega)
theorem tb_p109_0 : tb_ckP prog_12_method_15_code tbI109 0 = true := by decide +kernel
theorem tb_p109_1 : tb_ckP prog_12_method_15_code tbI109 40 = true := by decide +kernel
theorem tb_ln109 : tbI109.length = 41 := by decide +kernel
theorem tb_ckI_109 : tb_ckI prog_12_method_15_code tbI109
  | 0 => tb_p109_0
  | 1 => tb_p109_1
  | j + 2 => tb_ckP_ge (show tbI109.length ≤ 40 * (j + 2) from by rw [tb_ln109]; omega)
theorem tb_p110_0 : tb_ckP prog_12_method_16_code tbI110 0 = true := by decide +kernel
theorem tb_ln110 : tbI110.length = 28 := by decide +kernel
theorem tb_ckI_110 : tb_ckI prog_12_method_16_code tbI110
  | 0 => tb_p110_0
  | j + 1 => tb_ckP_ge (show tbI110.length ≤ 40 * (j + 1) from by rw [tb_ln110]; omega)
theorem tb_p111_0 : tb_ckP prog_7_method_2_code tbI111 0 = true := by decide +kernel
theorem tb_ln111 : tbI111.length = 24 := by decide +kernel
theorem tb_ckI_111 : tb_ckI prog_7_method_2_code tbI111
  | 0 => tb_p111_0
  | j + 1 => tb_ckP_ge (show tbI111.length ≤ 40 * (j + 1) from by rw [tb_ln111]; omega)
theorem tb_p112_0 : tb_ckP prog_12_method_17_code tbI112 0 = true := by decide +kernel
theorem tb_p112_1 : tb_ckP prog_12_method_17_code tbI112 40 = true := by decide +kernel
theorem tb_p112_2 : tb_ckP prog_12_method_17_code tbI112 80 = true := by decide +kernel
theorem tb_p112_3 : tb_ckP prog_12_method_17_code tbI112 120 = true := by decide +kernel
theorem tb_ln112 : tbI112.length = 122 := by decide +kernel
theorem tb_ckI_112 : tb_ckI prog_12_method_17_code tbI112
  | 0 => tb_p112_0
  | 1 => tb_p112_1
  | 2 => tb_p112_2
  | 3 => tb_p112_3
  | j + 4 => tb_ckP_ge (show tbI112.length ≤ 40 * (j + 4) from by rw [tb_ln112]; omega)
theorem tb_p113_0 : tb_ckP prog_12_method_21_code tbI113 0 = true := by decide +kernel
theorem tb_p113_1 : tb_ckP prog_12_method_21_code tbI113 40 = true := by decide +kernel
theorem tb_p113_2 : tb_ckP prog_12_method_21_code tbI113 80 = true := by decide +kernel
theorem tb_ln113 : tbI113.length = 87 := by decide +kernel
theorem tb_ckI_113 : tb_ckI prog_12_method_21_code tbI113
  | 0 => tb_p113_0
  | 1 => tb_p113_1
  | 2 => tb_p113_2
  | j + 3 => tb_ckP_ge (show tbI113.length ≤ 40 * (j + 3) from by rw [tb_ln113]; omega)
theorem tb_p114_0 : tb_ckP prog_12_method_19_code tbI114 0 = true := by decide +kernel
theorem tb_ln114 : tbI114.length = 34 := by decide +kernel
theorem tb_ckI_114 : tb_ckI prog_12_method_19_code tbI114
  | 0 => tb_p114_0
  | j + 1 => tb_ckP_ge (show tbI114.length ≤ 40 * (j + 1) from by rw [tb_ln114]; omega)
theorem tb_p115_0 : tb_ckP prog_12_method_20_code tbI115 0 = true := by decide +kernel
theorem tb_ln115 : tbI115.length = 31 := by decide +kernel
theorem tb_ckI_115 : tb_ckI prog_12_method_20_code tbI115
  | 0 => tb_p115_0
  | j + 1 => tb_ckP_ge (show tbI115.length ≤ 40 * (j + 1) from by rw [tb_ln115]; omega)
theorem tb_p116_0 : tb_ckP prog_12_method_18_code tbI116 0 = true := by decide +kernel
theorem tb_p116_1 : tb_ckP prog_12_method_18_code tbI116 40 = true := by decide +kernel
theorem tb_p116_2 : tb_ckP prog_12_method_18_code tbI116 80 = true := by decide +kernel
theorem tb_ln116 : tbI116.length = 105 := by decide +kernel
theorem tb_ckI_116 : tb_ckI prog_12_method_18_code tbI116
  | 0 => tb_p116_0
  | 1 => tb_p116_1
  | 2 => tb_p116_2
  | j + 3 => tb_ckP_ge (show tbI116.length ≤ 40 * (j + 3) from by rw [tb_ln116]; omega)
theorem tb_p117_0 : tb_ckP prog_3_method_10_code tbI117 0 = true := by decide +kernel
theorem tb_ln117 : tbI117.length = 27 := by decide +kernel
theorem tb_ckI_117 : tb_ckI prog_3_method_10_code tbI117
  | 0 => tb_p117_0
  | j + 1 => tb_ckP_ge (show tbI117.length ≤ 40 * (j + 1) from by rw [tb_ln117]; omega)
theorem tb_p118_0 : tb_ckP prog_12_method_6_code tbI118 0 = true := by decide +kernel
theorem tb_p118_1 : tb_ckP prog_12_method_6_code tbI118 40 = true := by decide +kernel
theorem tb_p118_2 : tb_ckP prog_12_method_6_code tbI118 80 = true := by decide +kernel
theorem tb_ln118 : tbI118.length = 107 := by decide +kernel
theorem tb_ckI_118 : tb_ckI prog_12_method_6_code tbI118
  | 0 => tb_p118_0
  | 1 => tb_p118_1
  | 2 => tb_p118_2
  | j + 3 => tb_ckP_ge (show tbI118.length ≤ 40 * (j + 3) from by rw [tb_ln118]; omega)
theorem tb_p119_0 : tb_ckP prog_8_method_2_code tbI119 0 = true := by decide +kernel
theorem tb_ln119 : tbI119.length = 13 := by decide +kernel
theorem tb_ckI_119 : tb_ckI prog_8_method_2_code tbI119
  | 0 => tb_p119_0
  | j + 1 => tb_ckP_ge (show tbI119.length ≤ 40 * (j + 1) from by rw [tb_ln119]; omega)
theorem tb_p120_0 : tb_ckP prog_12_method_5_code tbI120 0 = true := by decide +kernel
theorem tb_ln120 : tbI120.length = 25 := by decide +kernel
theorem tb_ckI_120 : tb_ckI prog_12_method_5_code tbI120
  | 0 => tb_p120_0
  | j + 1 => tb_ckP_ge (show tbI120.length ≤ 40 * (j + 1) from by rw [tb_ln120]; omega)
theorem tb_p121_0 : tb_ckP prog_2_method_11_code tbI121 0 = true := by decide +kernel
theorem tb_p121_1 : tb_ckP prog_2_method_11_code tbI121 40 = true := by decide +kernel
theorem tb_ln121 : tbI121.length = 43 := by decide +kernel
theorem tb_ckI_121 : tb_ckI prog_2_method_11_code tbI121
  | 0 => tb_p121_0
  | 1 => tb_p121_1
  | j + 2 => tb_ckP_ge (show tbI121.length ≤ 40 * (j + 2) from by rw [tb_ln121]; omega)
