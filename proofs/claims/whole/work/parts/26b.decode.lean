theorem tb_p57_0 : tb_ckP prog_5_method_1_code tbI57 0 = true := by decide +kernel
theorem tb_ckI_57 : tb_ckI prog_5_method_1_code tbI57
  | 0 => tb_p57_0
  | j + 1 => tb_ckP_ge (show tbI57.length ≤ 40 * (j + 1) from by rw [show tbI57.length = 25 from rfl]; omega)
theorem tb_p58_0 : tb_ckP prog_6_method_24_code tbI58 0 = true := by decide +kernel
theorem tb_p58_1 : tb_ckP prog_6_method_24_code tbI58 40 = true := by decide +kernel
theorem tb_ckI_58 : tb_ckI prog_6_method_24_code tbI58
  | 0 => tb_p58_0
  | 1 => tb_p58_1
  | j + 2 => tb_ckP_ge (show tbI58.length ≤ 40 * (j + 2) from by rw [show tbI58.length = 68 from rfl]; omega)
theorem tb_p59_0 : tb_ckP prog_8_method_5_code tbI59 0 = true := by decide +kernel
theorem tb_p59_1 : tb_ckP prog_8_method_5_code tbI59 40 = true := by decide +kernel
theorem tb_ckI_59 : tb_ckI prog_8_method_5_code tbI59
  | 0 => tb_p59_0
  | 1 => tb_p59_1
  | j + 2 => tb_ckP_ge (show tbI59.length ≤ 40 * (j + 2) from by rw [show tbI59.length = 50 from rfl]; omega)
theorem tb_p60_0 : tb_ckP prog_6_method_25_code tbI60 0 = true := by decide +kernel
theorem tb_p60_1 : tb_ckP prog_6_method_25_code tbI60 40 = true := by decide +kernel
theorem tb_p60_2 : tb_ckP prog_6_method_25_code tbI60 80 = true := by decide +kernel
theorem tb_ckI_60 : tb_ckI prog_6_method_25_code tbI60
  | 0 => tb_p60_0
  | 1 => tb_p60_1
  | 2 => tb_p60_2
  | j + 3 => tb_ckP_ge (show tbI60.length ≤ 40 * (j + 3) from by rw [show tbI60.length = 90 from rfl]; omega)
theorem tb_p61_0 : tb_ckP prog_6_method_26_code tbI61 0 = true := by decide +kernel
theorem tb_p61_1 : tb_ckP prog_6_method_26_code tbI61 40 = true := by decide +kernel
theorem tb_ckI_61 : tb_ckI prog_6_method_26_code tbI61
  | 0 => tb_p61_0
  | 1 => tb_p61_1
  | j + 2 => tb_ckP_ge (show tbI61.length ≤ 40 * (j + 2) from by rw [show tbI61.length = 78 from rfl]; omega)
theorem tb_p62_0 : tb_ckP prog_5_method_2_code tbI62 0 = true := by decide +kernel
theorem tb_ckI_62 : tb_ckI prog_5_method_2_code tbI62
  | 0 => tb_p62_0
  | j + 1 => tb_ckP_ge (show tbI62.length ≤ 40 * (j + 1) from by rw [show tbI62.length = 16 from rfl]; omega)
theorem tb_p63_0 : tb_ckP prog_6_method_7_code tbI63 0 = true := by decide +kernel
theorem tb_ckI_63 : tb_ckI prog_6_method_7_code tbI63
  | 0 => tb_p63_0
  | j + 1 => tb_ckP_ge (show tbI63.length ≤ 40 * (j + 1) from by rw [show tbI63.length = 12 from rfl]; omega)
theorem tb_p64_0 : tb_ckP prog_6_method_27_code tbI64 0 = true := by decide +kernel
theorem tb_p64_1 : tb_ckP prog_6_method_27_code tbI64 40 = true := by decide +kernel
theorem tb_p64_2 : tb_ckP prog_6_method_27_code tbI64 80 = true := by decide +kernel
theorem tb_p64_3 : tb_ckP prog_6_method_27_code tbI64 120 = true := by decide +kernel
theorem tb_p64_4 : tb_ckP prog_6_method_27_code tbI64 160 = true := by decide +kernel
theorem tb_ckI_64 : tb_ckI prog_6_method_27_code tbI64
  | 0 => tb_p64_0
  | 1 => tb_p64_1
  | 2 => tb_p64_2
  | 3 => tb_p64_3
  | 4 => tb_p64_4
  | j + 5 => tb_ckP_ge (show tbI64.length ≤ 40 * (j + 5) from by rw [show tbI64.length = 192 from rfl]; omega)
theorem tb_p65_0 : tb_ckP prog_5_method_3_code tbI65 0 = true := by decide +kernel
theorem tb_ckI_65 : tb_ckI prog_5_method_3_code tbI65
  | 0 => tb_p65_0
  | j + 1 => tb_ckP_ge (show tbI65.length ≤ 40 * (j + 1) from by rw [show tbI65.length = 18 from rfl]; omega)
theorem tb_p66_0 : tb_ckP prog_3_method_8_code tbI66 0 = true := by decide +kernel
theorem tb_ckI_66 : tb_ckI prog_3_method_8_code tbI66
  | 0 => tb_p66_0
  | j + 1 => tb_ckP_ge (show tbI66.length ≤ 40 * (j + 1) from by rw [show tbI66.length = 29 from rfl]; omega)
theorem tb_p67_0 : tb_ckP prog_5_method_4_code tbI67 0 = true := by decide +kernel
theorem tb_ckI_67 : tb_ckI prog_5_method_4_code tbI67
  | 0 => tb_p67_0
  | j + 1 => tb_ckP_ge (show tbI67.length ≤ 40 * (j + 1) from by rw [show tbI67.length = 19 from rfl]; omega)
theorem tb_p68_0 : tb_ckP prog_5_method_5_code tbI68 0 = true := by decide +kernel
theorem tb_ckI_68 : tb_ckI prog_5_method_5_code tbI68
  | 0 => tb_p68_0
  | j + 1 => tb_ckP_ge (show tbI68.length ≤ 40 * (j + 1) from by rw [show tbI68.length = 31 from rfl]; omega)
theorem tb_p69_0 : tb_ckP prog_6_method_28_code tbI69 0 = true := by decide +kernel
theorem tb_p69_1 : tb_ckP prog_6_method_28_code tbI69 40 = true := by decide +kernel
theorem tb_p69_2 : tb_ckP prog_6_method_28_code tbI69 80 = true := by decide +kernel
theorem tb_p69_3 : tb_ckP prog_6_method_28_code tbI69 120 = true := by decide +kernel
theorem tb_p69_4 : tb_ckP prog_6_method_28_code tbI69 160 = true := by decide +kernel
theorem tb_p69_5 : tb_ckP prog_6_method_28_code tbI69 200 = true := by decide +kernel
theorem tb_p69_6 : tb_ckP prog_6_method_28_code tbI69 240 = true := by decide +kernel
theorem tb_ckI_69 : tb_ckI prog_6_method_28_code tbI69
  | 0 => tb_p69_0
  | 1 => tb_p69_1
  | 2 => tb_p69_2
  | 3 => tb_p69_3
  | 4 => tb_p69_4
  | 5 => tb_p69_5
  | 6 => tb_p69_6
  | j + 7 => tb_ckP_ge (show tbI69.length ≤ 40 * (j + 7) from by rw [show tbI69.length = 251 from rfl]; omega)
theorem tb_p70_0 : tb_ckP prog_8_method_6_code tbI70 0 = true := by decide +kernel
theorem tb_ckI_70 : tb_ckI prog_8_method_6_code tbI70
  | 0 => tb_p70_0
  | j + 1 => tb_ckP_ge (show tbI70.length ≤ 40 * (j + 1) from by rw [show tbI70.length = 31 from rfl]; omega)
theorem tb_p71_0 : tb_ckP prog_8_method_7_code tbI71 0 = true := by decide +kernel
theorem tb_p71_1 : tb_ckP prog_8_method_7_code tbI71 40 = true := by decide +kernel
theorem tb_ckI_71 : tb_ckI prog_8_method_7_code tbI71
  | 0 => tb_p71_0
  | 1 => tb_p71_1
  | j + 2 => tb_ckP_ge (show tbI71.length ≤ 40 * (j + 2) from by rw [show tbI71.length = 44 from rfl]; omega)
theorem tb_p72_0 : tb_ckP prog_8_method_8_code tbI72 0 = true := by decide +kernel
theorem tb_p72_1 : tb_ckP prog_8_method_8_code tbI72 40 = true := by decide +kernel
theorem tb_ckI_72 : tb_ckI prog_8_method_8_code tbI72
  | 0 => tb_p72_0
  | 1 => tb_p72_1
  | j + 2 => tb_ckP_ge (show tbI72.length ≤ 40 * (j + 2) from by rw [show tbI72.length = 52 from rfl]; omega)
theorem tb_p73_0 : tb_ckP prog_6_method_23_code tbI73 0 = true := by decide +kernel
theorem tb_p73_1 : tb_ckP prog_6_method_23_code tbI73 40 = true := by decide +kernel
theorem tb_p73_2 : tb_ckP prog_6_method_23_code tbI73 80 = true := by decide +kernel
theorem tb_ckI_73 : tb_ckI prog_6_method_23_code tbI73
  | 0 => tb_p73_0
  | 1 => tb_p73_1
  | 2 => tb_p73_2
  | j + 3 => tb_ckP_ge (show tbI73.length ≤ 40 * (j + 3) from by rw [show tbI73.length = 109 from rfl]; omega)
theorem tb_p74_0 : tb_ckP prog_6_method_29_code tbI74 0 = true := by decide +kernel
theorem tb_p74_1 : tb_ckP prog_6_method_29_code tbI74 40 = true := by decide +kernel
theorem tb_ckI_74 : tb_ckI prog_6_method_29_code tbI74
  | 0 => tb_p74_0
  | 1 => tb_p74_1
  | j + 2 => tb_ckP_ge (show tbI74.length ≤ 40 * (j + 2) from by rw [show tbI74.length = 70 from rfl]; omega)
theorem tb_p75_0 : tb_ckP prog_6_method_30_code tbI75 0 = true := by decide +kernel
theorem tb_p75_1 : tb_ckP prog_6_method_30_code tbI75 40 = true := by decide +kernel
theorem tb_ckI_75 : tb_ckI prog_6_method_30_code tbI75
  | 0 => tb_p75_0
  | 1 => tb_p75_1
  | j + 2 => tb_ckP_ge (show tbI75.length ≤ 40 * (j + 2) from by rw [show tbI75.length = 79 from rfl]; omega)
theorem tb_p76_0 : tb_ckP prog_6_method_31_code tbI76 0 = true := by decide +kernel
theorem tb_p76_1 : tb_ckP prog_6_method_31_code tbI76 40 = true := by decide +kernel
theorem tb_p76_2 : tb_ckP prog_6_method_31_code tbI76 80 = true := by decide +kernel
theorem tb_ckI_76 : tb_ckI prog_6_method_31_code tbI76
  | 0 => tb_p76_0
  | 1 => tb_p76_1
  | 2 => tb_p76_2
  | j + 3 => tb_ckP_ge (show tbI76.length ≤ 40 * (j + 3) from by rw [show tbI76.length = 87 from rfl]; omega)
theorem tb_p77_0 : tb_ckP prog_6_method_32_code tbI77 0 = true := by decide +kernel
theorem tb_p77_1 : tb_ckP prog_6_method_32_code tbI77 40 = true := by decide +kernel
theorem tb_ckI_77 : tb_ckI prog_6_method_32_code tbI77
  | 0 => tb_p77_0
  | 1 => tb_p77_1
  | j + 2 => tb_ckP_ge (show tbI77.length ≤ 40 * (j + 2) from by rw [show tbI77.length = 56 from rfl]; omega)
theorem tb_p78_0 : tb_ckP prog_8_method_3_code tbI78 0 = true := by decide +kernel
theorem tb_ckI_78 : tb_ckI prog_8_method_3_code tbI78
  | 0 => tb_p78_0
  | j + 1 => tb_ckP_ge (show tbI78.length ≤ 40 * (j + 1) from by rw [show tbI78.length = 31 from rfl]; omega)
theorem tb_p79_0 : tb_ckP prog_6_method_33_code tbI79 0 = true := by decide +kernel
theorem tb_p79_1 : tb_ckP prog_6_method_33_code tbI79 40 = true := by decide +kernel
theorem tb_p79_2 : tb_ckP prog_6_method_33_code tbI79 80 = true := by decide +kernel
theorem tb_ckI_79 : tb_ckI prog_6_method_33_code tbI79
  | 0 => tb_p79_0
  | 1 => tb_p79_1
  | 2 => tb_p79_2
  | j + 3 => tb_ckP_ge (show tbI79.length ≤ 40 * (j + 3) from by rw [show tbI79.length = 95 from rfl]; omega)
theorem tb_p80_0 : tb_ckP prog_6_method_34_code tbI80 0 = true := by decide +kernel
theorem tb_p80_1 : tb_ckP prog_6_method_34_code tbI80 40 = true := by decide +kernel
theorem tb_p80_2 : tb_ckP prog_6_method_34_code tbI80 80 = true := by decide +kernel
theorem tb_p80_3 : tb_ckP prog_6_method_34_code tbI80 120 = true := by decide +kernel
theorem tb_ckI_80 : tb_ckI prog_6_method_34_code tbI80
  | 0 => tb_p80_0
  | 1 => tb_p80_1
  | 2 => tb_p80_2
  | 3 => tb_p80_3
  | j + 4 => tb_ckP_ge (show tbI80.length ≤ 40 * (j + 4) from by rw [show tbI80.length = 154 from rfl]; omega)
theorem tb_p81_0 : tb_ckP prog_8_method_9_code tbI81 0 = true := by decide +kernel
theorem tb_ckI_81 : tb_ckI prog_8_method_9_code tbI81
  | 0 => tb_p81_0
  | j + 1 => tb_ckP_ge (show tbI81.length ≤ 40 * (j + 1) from by rw [show tbI81.length = 39 from rfl]; omega)
theorem tb_p82_0 : tb_ckP prog_2_method_3_code tbI82 0 = true := by decide +kernel
theorem tb_ckI_82 : tb_ckI prog_2_method_3_code tbI82
  | 0 => tb_p82_0
  | j + 1 => tb_ckP_ge (show tbI82.length ≤ 40 * (j + 1) from by rw [show tbI82.length = 30 from rfl]; omega)
theorem tb_p83_0 : tb_ckP prog_6_method_35_code tbI83 0 = true := by decide +kernel
theorem tb_p83_1 : tb_ckP prog_6_method_35_code tbI83 40 = true := by decide +kernel
theorem tb_ckI_83 : tb_ckI prog_6_method_35_code tbI83
  | 0 => tb_p83_0
  | 1 => tb_p83_1
  | j + 2 => tb_ckP_ge (show tbI83.length ≤ 40 * (j + 2) from by rw [show tbI83.length = 69 from rfl]; omega)
theorem tb_p84_0 : tb_ckP prog_6_method_36_code tbI84 0 = true := by decide +kernel
theorem tb_p84_1 : tb_ckP prog_6_method_36_code tbI84 40 = true := by decide +kernel
theorem tb_p84_2 : tb_ckP prog_6_method_36_code tbI84 80 = true := by decide +kernel
theorem tb_ckI_84 : tb_ckI prog_6_method_36_code tbI84
  | 0 => tb_p84_0
  | 1 => tb_p84_1
  | 2 => tb_p84_2
  | j + 3 => tb_ckP_ge (show tbI84.length ≤ 40 * (j + 3) from by rw [show tbI84.length = 114 from rfl]; omega)
theorem tb_p85_0 : tb_ckP prog_6_method_2_code tbI85 0 = true := by decide +kernel
theorem tb_ckI_85 : tb_ckI prog_6_method_2_code tbI85
  | 0 => tb_p85_0
  | j + 1 => tb_ckP_ge (show tbI85.length ≤ 40 * (j + 1) from by rw [show tbI85.length = 23 from rfl]; omega)
theorem tb_p86_0 : tb_ckP prog_3_method_13_code tbI86 0 = true := by decide +kernel
theorem tb_ckI_86 : tb_ckI prog_3_method_13_code tbI86
  | 0 => tb_p86_0
  | j + 1 => tb_ckP_ge (show tbI86.length ≤ 40 * (j + 1) from by rw [show tbI86.length = 32 from rfl]; omega)
theorem tb_p87_0 : tb_ckP prog_6_method_37_code tbI87 0 = true := by decide +kernel
theorem tb_p87_1 : tb_ckP prog_6_method_37_code tbI87 40 = true := by decide +kernel
theorem tb_ckI_87 : tb_ckI prog_6_method_37_code tbI87
  | 0 => tb_p87_0
  | 1 => tb_p87_1
  | j + 2 => tb_ckP_ge (show tbI87.length ≤ 40 * (j + 2) from by rw [show tbI87.length = 68 from rfl]; omega)
theorem tb_p88_0 : tb_ckP prog_2_method_8_code tbI88 0 = true := by decide +kernel
theorem tb_p88_1 : tb_ckP prog_2_method_8_code tbI88 40 = true := by decide +kernel
theorem tb_ckI_88 : tb_ckI prog_2_method_8_code tbI88
  | 0 => tb_p88_0
  | 1 => tb_p88_1
  | j + 2 => tb_ckP_ge (show tbI88.length ≤ 40 * (j + 2) from by rw [show tbI88.length = 45 from rfl]; omega)
theorem tb_p89_0 : tb_ckP prog_2_method_9_code tbI89 0 = true := by decide +kernel
theorem tb_p89_1 : tb_ckP prog_2_method_9_code tbI89 40 = true := by decide +kernel
theorem tb_p89_2 : tb_ckP prog_2_method_9_code tbI89 80 = true := by decide +kernel
theorem tb_ckI_89 : tb_ckI prog_2_method_9_code tbI89
  | 0 => tb_p89_0
  | 1 => tb_p89_1
  | 2 => tb_p89_2
  | j + 3 => tb_ckP_ge (show tbI89.length ≤ 40 * (j + 3) from by rw [show tbI89.length = 100 from rfl]; omega)
theorem tb_p90_0 : tb_ckP prog_7_method_1_code tbI90 0 = true := by decide +kernel
theorem tb_ckI_90 : tb_ckI prog_7_method_1_code tbI90
  | 0 => tb_p90_0
  | j + 1 => tb_ckP_ge (show tbI90.length ≤ 40 * (j + 1) from by rw [show tbI90.length = 34 from rfl]; omega)
theorem tb_p91_0 : tb_ckP prog_7_method_3_code tbI91 0 = true := by decide +kernel
theorem tb_p91_1 : tb_ckP prog_7_method_3_code tbI91 40 = true := by decide +kernel
theorem tb_ckI_91 : tb_ckI prog_7_method_3_code tbI91
  | 0 => tb_p91_0
  | 1 => tb_p91_1
  | j + 2 => tb_ckP_ge (show tbI91.length ≤ 40 * (j + 2) from by rw [show tbI91.length = 56 from rfl]; omega)
theorem tb_p92_0 : tb_ckP prog_7_method_4_code tbI92 0 = true := by decide +kernel
theorem tb_p92_1 : tb_ckP prog_7_method_4_code tbI92 40 = true := by decide +kernel
theorem tb_ckI_92 : tb_ckI prog_7_method_4_code tbI92
  | 0 => tb_p92_0
  | 1 => tb_p92_1
  | j + 2 => tb_ckP_ge (show tbI92.length ≤ 40 * (j + 2) from by rw [show tbI92.length = 74 from rfl]; omega)
theorem tb_p93_0 : tb_ckP prog_7_method_7_code tbI93 0 = true := by decide +kernel
theorem tb_ckI_93 : tb_ckI prog_7_method_7_code tbI93
  | 0 => tb_p93_0
  | j + 1 => tb_ckP_ge (show tbI93.length ≤ 40 * (j + 1) from by rw [show tbI93.length = 34 from rfl]; omega)
theorem tb_p94_0 : tb_ckP prog_7_method_5_code tbI94 0 = true := by decide +kernel
theorem tb_p94_1 : tb_ckP prog_7_method_5_code tbI94 40 = true := by decide +kernel
theorem tb_ckI_94 : tb_ckI prog_7_method_5_code tbI94
  | 0 => tb_p94_0
  | 1 => tb_p94_1
  | j + 2 => tb_ckP_ge (show tbI94.length ≤ 40 * (j + 2) from by rw [show tbI94.length = 57 from rfl]; omega)
theorem tb_p95_0 : tb_ckP prog_7_method_6_code tbI95 0 = true := by decide +kernel
theorem tb_p95_1 : tb_ckP prog_7_method_6_code tbI95 40 = true := by decide +kernel
theorem tb_ckI_95 : tb_ckI prog_7_method_6_code tbI95
  | 0 => tb_p95_0
  | 1 => tb_p95_1
  | j + 2 => tb_ckP_ge (show tbI95.length ≤ 40 * (j + 2) from by rw [show tbI95.length = 55 from rfl]; omega)
theorem tb_p96_0 : tb_ckP prog_6_method_3_code tbI96 0 = true := by decide +kernel
theorem tb_ckI_96 : tb_ckI prog_6_method_3_code tbI96
  | 0 => tb_p96_0
  | j + 1 => tb_ckP_ge (show tbI96.length ≤ 40 * (j + 1) from by rw [show tbI96.length = 14 from rfl]; omega)
theorem tb_p97_0 : tb_ckP prog_2_method_10_code tbI97 0 = true := by decide +kernel
theorem tb_ckI_97 : tb_ckI prog_2_method_10_code tbI97
  | 0 => tb_p97_0
  | j + 1 => tb_ckP_ge (show tbI97.length ≤ 40 * (j + 1) from by rw [show tbI97.length = 9 from rfl]; omega)
theorem tb_p98_0 : tb_ckP prog_12_method_3_code tbI98 0 = true := by decide +kernel
theorem tb_p98_1 : tb_ckP prog_12_method_3_code tbI98 40 = true := by decide +kernel
theorem tb_ckI_98 : tb_ckI prog_12_method_3_code tbI98
  | 0 => tb_p98_0
  | 1 => tb_p98_1
  | j + 2 => tb_ckP_ge (show tbI98.length ≤ 40 * (j + 2) from by rw [show tbI98.length = 75 from rfl]; omega)
theorem tb_p99_0 : tb_ckP prog_11_method_2_code tbI99 0 = true := by decide +kernel
theorem tb_ckI_99 : tb_ckI prog_11_method_2_code tbI99
  | 0 => tb_p99_0
  | j + 1 => tb_ckP_ge (show tbI99.length ≤ 40 * (j + 1) from by rw [show tbI99.length = 21 from rfl]; omega)
theorem tb_p100_0 : tb_ckP prog_12_method_4_code tbI100 0 = true := by decide +kernel
theorem tb_p100_1 : tb_ckP prog_12_method_4_code tbI100 40 = true := by decide +kernel
theorem tb_p100_2 : tb_ckP prog_12_method_4_code tbI100 80 = true := by decide +kernel
theorem tb_p100_3 : tb_ckP prog_12_method_4_code tbI100 120 = true := by decide +kernel
theorem tb_ckI_100 : tb_ckI prog_12_method_4_code tbI100
  | 0 => tb_p100_0
  | 1 => tb_p100_1
  | 2 => tb_p100_2
  | 3 => tb_p100_3
  | j + 4 => tb_ckP_ge (show tbI100.length ≤ 40 * (j + 4) from by rw [show tbI100.length = 146 from rfl]; omega)
theorem tb_p101_0 : tb_ckP prog_11_method_4_code tbI101 0 = true := by decide +kernel
theorem tb_p101_1 : tb_ckP prog_11_method_4_code tbI101 40 = true := by decide +kernel
theorem tb_p101_2 : tb_ckP prog_11_method_4_code tbI101 80 = true := by decide +kernel
theorem tb_ckI_101 : tb_ckI prog_11_method_4_code tbI101
  | 0 => tb_p101_0
  | 1 => tb_p101_1
  | 2 => tb_p101_2
  | j + 3 => tb_ckP_ge (show tbI101.length ≤ 40 * (j + 3) from by rw [show tbI101.length = 82 from rfl]; omega)
theorem tb_p102_0 : tb_ckP prog_12_method_9_code tbI102 0 = true := by decide +kernel
theorem tb_p102_1 : tb_ckP prog_12_method_9_code tbI102 40 = true := by decide +kernel
theorem tb_ckI_102 : tb_ckI prog_12_method_9_code tbI102
  | 0 => tb_p102_0
  | 1 => tb_p102_1
  | j + 2 => tb_ckP_ge (show tbI102.length ≤ 40 * (j + 2) from by rw [show tbI102.length = 60 from rfl]; omega)
theorem tb_p103_0 : tb_ckP prog_12_method_10_code tbI103 0 = true := by decide +kernel
theorem tb_p103_1 : tb_ckP prog_12_method_10_code tbI103 40 = true := by decide +kernel
theorem tb_ckI_103 : tb_ckI prog_12_method_10_code tbI103
  | 0 => tb_p103_0
  | 1 => tb_p103_1
  | j + 2 => tb_ckP_ge (show tbI103.length ≤ 40 * (j + 2) from by rw [show tbI103.length = 58 from rfl]; omega)
theorem tb_p104_0 : tb_ckP prog_12_method_11_code tbI104 0 = true := by decide +kernel
theorem tb_ckI_104 : tb_ckI prog_12_method_11_code tbI104
  | 0 => tb_p104_0
  | j + 1 => tb_ckP_ge (show tbI104.length ≤ 40 * (j + 1) from by rw [show tbI104.length = 32 from rfl]; omega)
theorem tb_p105_0 : tb_ckP prog_3_method_14_code tbI105 0 = true := by decide +kernel
theorem tb_p105_1 : tb_ckP prog_3_method_14_code tbI105 40 = true := by decide +kernel
theorem tb_ckI_105 : tb_ckI prog_3_method_14_code tbI105
  | 0 => tb_p105_0
  | 1 => tb_p105_1
  | j + 2 => tb_ckP_ge (show tbI105.length ≤ 40 * (j + 2) from by rw [show tbI105.length = 58 from rfl]; omega)
theorem tb_p106_0 : tb_ckP prog_2_method_13_code tbI106 0 = true := by decide +kernel
theorem tb_ckI_106 : tb_ckI prog_2_method_13_code tbI106
  | 0 => tb_p106_0
  | j + 1 => tb_ckP_ge (show tbI106.length ≤ 40 * (j + 1) from by rw [show tbI106.length = 23 from rfl]; omega)
theorem tb_p107_0 : tb_ckP prog_12_method_12_code tbI107 0 = true := by decide +kernel
theorem tb_p107_1 : tb_ckP prog_12_method_12_code tbI107 40 = true := by decide +kernel
theorem tb_ckI_107 : tb_ckI prog_12_method_12_code tbI107
  | 0 => tb_p107_0
  | 1 => tb_p107_1
  | j + 2 => tb_ckP_ge (show tbI107.length ≤ 40 * (j + 2) from by rw [show tbI107.length = 79 from rfl]; omega)
theorem tb_p108_0 : tb_ckP prog_12_method_13_code tbI108 0 = true := by decide +kernel
theorem tb_ckI_108 : tb_ckI prog_12_method_13_code tbI108
  | 0 => tb_p108_0
  | j + 1 => tb_ckP_ge (show tbI108.length ≤ 40 * (j + 1) from by rw [show tbI108.length = 35 from rfl]; omega)
theorem tb_p109_0 : tb_ckP prog_2_method_5_code tbI109 0 = true := by decide +kernel
theorem tb_ckI_109 : tb_ckI prog_2_method_5_code tbI109
  | 0 => tb_p109_0
  | j + 1 => tb_ckP_ge (show tbI109.length ≤ 40 * (j + 1) from by rw [show tbI109.length = 23 from rfl]; omega)
theorem tb_p110_0 : tb_ckP prog_12_method_14_code tbI110 0 = true := by decide +kernel
theorem tb_p110_1 : tb_ckP prog_12_method_14_code tbI110 40 = true := by decide +kernel
theorem tb_ckI_110 : tb_ckI prog_12_method_14_code tbI110
  | 0 => tb_p110_0
  | 1 => tb_p110_1
  | j + 2 => tb_ckP_ge (show tbI110.length ≤ 40 * (j + 2) from by rw [show tbI110.length = 75 from rfl]; omega)
theorem tb_p111_0 : tb_ckP prog_12_method_15_code tbI111 0 = true := by decide +kernel
theorem tb_p111_1 : tb_ckP prog_12_method_15_code tbI111 40 = true := by decide +kernel
theorem tb_ckI_111 : tb_ckI prog_12_method_15_code tbI111
  | 0 => tb_p111_0
  | 1 => tb_p111_1
  | j + 2 => tb_ckP_ge (show tbI111.length ≤ 40 * (j + 2) from by rw [show tbI111.length = 41 from rfl]; omega)
theorem tb_p112_0 : tb_ckP prog_12_method_16_code tbI112 0 = true := by decide +kernel
theorem tb_ckI_112 : tb_ckI prog_12_method_16_code tbI112
  | 0 => tb_p112_0
  | j + 1 => tb_ckP_ge (show tbI112.length ≤ 40 * (j + 1) from by rw [show tbI112.length = 28 from rfl]; omega)
theorem tb_p113_0 : tb_ckP prog_7_method_2_code tbI113 0 = true := by decide +kernel
theorem tb_ckI_113 : tb_ckI prog_7_method_2_code tbI113
  | 0 => tb_p113_0
  | j + 1 => tb_ckP_ge (show tbI113.length ≤ 40 * (j + 1) from by rw [show tbI113.length = 24 from rfl]; omega)
theorem tb_p114_0 : tb_ckP prog_12_method_17_code tbI114 0 = true := by decide +kernel
theorem tb_p114_1 : tb_ckP prog_12_method_17_code tbI114 40 = true := by decide +kernel
theorem tb_p114_2 : tb_ckP prog_12_method_17_code tbI114 80 = true := by decide +kernel
theorem tb_p114_3 : tb_ckP prog_12_method_17_code tbI114 120 = true := by decide +kernel
theorem tb_ckI_114 : tb_ckI prog_12_method_17_code tbI114
  | 0 => tb_p114_0
  | 1 => tb_p114_1
  | 2 => tb_p114_2
  | 3 => tb_p114_3
  | j + 4 => tb_ckP_ge (show tbI114.length ≤ 40 * (j + 4) from by rw [show tbI114.length = 122 from rfl]; omega)
theorem tb_p115_0 : tb_ckP prog_12_method_21_code tbI115 0 = true := by decide +kernel
theorem tb_p115_1 : tb_ckP prog_12_method_21_code tbI115 40 = true := by decide +kernel
theorem tb_p115_2 : tb_ckP prog_12_method_21_code tbI115 80 = true := by decide +kernel
theorem tb_ckI_115 : tb_ckI prog_12_method_21_code tbI115
  | 0 => tb_p115_0
  | 1 => tb_p115_1
  | 2 => tb_p115_2
  | j + 3 => tb_ckP_ge (show tbI115.length ≤ 40 * (j + 3) from by rw [show tbI115.length = 87 from rfl]; omega)
theorem tb_p116_0 : tb_ckP prog_12_method_19_code tbI116 0 = true := by decide +kernel
theorem tb_ckI_116 : tb_ckI prog_12_method_19_code tbI116
  | 0 => tb_p116_0
  | j + 1 => tb_ckP_ge (show tbI116.length ≤ 40 * (j + 1) from by rw [show tbI116.length = 34 from rfl]; omega)
theorem tb_p117_0 : tb_ckP prog_12_method_20_code tbI117 0 = true := by decide +kernel
theorem tb_ckI_117 : tb_ckI prog_12_method_20_code tbI117
  | 0 => tb_p117_0
  | j + 1 => tb_ckP_ge (show tbI117.length ≤ 40 * (j + 1) from by rw [show tbI117.length = 31 from rfl]; omega)
theorem tb_p118_0 : tb_ckP prog_12_method_18_code tbI118 0 = true := by decide +kernel
theorem tb_p118_1 : tb_ckP prog_12_method_18_code tbI118 40 = true := by decide +kernel
theorem tb_p118_2 : tb_ckP prog_12_method_18_code tbI118 80 = true := by decide +kernel
theorem tb_ckI_118 : tb_ckI prog_12_method_18_code tbI118
  | 0 => tb_p118_0
  | 1 => tb_p118_1
  | 2 => tb_p118_2
  | j + 3 => tb_ckP_ge (show tbI118.length ≤ 40 * (j + 3) from by rw [show tbI118.length = 105 from rfl]; omega)
theorem tb_p119_0 : tb_ckP prog_3_method_10_code tbI119 0 = true := by decide +kernel
theorem tb_ckI_119 : tb_ckI prog_3_method_10_code tbI119
  | 0 => tb_p119_0
  | j + 1 => tb_ckP_ge (show tbI119.length ≤ 40 * (j + 1) from by rw [show tbI119.length = 27 from rfl]; omega)
theorem tb_p120_0 : tb_ckP prog_12_method_6_code tbI120 0 = true := by decide +kernel
theorem tb_p120_1 : tb_ckP prog_12_method_6_code tbI120 40 = true := by decide +kernel
theorem tb_p120_2 : tb_ckP prog_12_method_6_code tbI120 80 = true := by decide +kernel
theorem tb_ckI_120 : tb_ckI prog_12_method_6_code tbI120
  | 0 => tb_p120_0
  | 1 => tb_p120_1
  | 2 => tb_p120_2
  | j + 3 => tb_ckP_ge (show tbI120.length ≤ 40 * (j + 3) from by rw [show tbI120.length = 107 from rfl]; omega)
theorem tb_p121_0 : tb_ckP prog_8_method_2_code tbI121 0 = true := by decide +kernel
theorem tb_ckI_121 : tb_ckI prog_8_method_2_code tbI121
  | 0 => tb_p121_0
  | j + 1 => tb_ckP_ge (show tbI121.length ≤ 40 * (j + 1) from by rw [show tbI121.length = 13 from rfl]; omega)
theorem tb_p122_0 : tb_ckP prog_12_method_5_code tbI122 0 = true := by decide +kernel
theorem tb_ckI_122 : tb_ckI prog_12_method_5_code tbI122
  | 0 => tb_p122_0
  | j + 1 => tb_ckP_ge (show tbI122.length ≤ 40 * (j + 1) from by rw [show tbI122.length = 25 from rfl]; omega)
theorem tb_p123_0 : tb_ckP prog_2_method_11_code tbI123 0 = true := by decide +kernel
theorem tb_p123_1 : tb_ckP prog_2_method_11_code tbI123 40 = true := by decide +kernel
theorem tb_ckI_123 : tb_ckI prog_2_method_11_code tbI123
  | 0 => tb_p123_0
  | 1 => tb_p123_1
  | j + 2 => tb_ckP_ge (show tbI123.length ≤ 40 * (j + 2) from by rw [show tbI123.length = 43 from rfl]; omega)
theorem tb_p124_0 : tb_ckP prog_12_method_7_code tbI124 0 = true := by decide +kernel
theorem tb_p124_1 : tb_ckP prog_12_method_7_code tbI124 40 = true := by decide +kernel
theorem tb_p124_2 : tb_ckP prog_12_method_7_code tbI124 80 = true := by decide +kernel
theorem tb_p124_3 : tb_ckP prog_12_method_7_code tbI124 120 = true := by decide +kernel
theorem tb_ckI_124 : tb_ckI prog_12_method_7_code tbI124
  | 0 => tb_p124_0
  | 1 => tb_p124_1
  | 2 => tb_p124_2
  | 3 => tb_p124_3
  | j + 4 => tb_ckP_ge (show tbI124.length ≤ 40 * (j + 4) from by rw [show tbI124.length = 144 from rfl]; omega)
theorem tb_p125_0 : tb_ckP prog_12_method_8_code tbI125 0 = true := by decide +kernel
theorem tb_ckI_125 : tb_ckI prog_12_method_8_code tbI125
  | 0 => tb_p125_0
  | j + 1 => tb_ckP_ge (show tbI125.length ≤ 40 * (j + 1) from by rw [show tbI125.length = 37 from rfl]; omega)
theorem tb_p126_0 : tb_ckP prog_11_method_5_code tbI126 0 = true := by decide +kernel
theorem tb_ckI_126 : tb_ckI prog_11_method_5_code tbI126
  | 0 => tb_p126_0
  | j + 1 => tb_ckP_ge (show tbI126.length ≤ 40 * (j + 1) from by rw [show tbI126.length = 19 from rfl]; omega)
theorem tb_p127_0 : tb_ckP prog_11_method_3_code tbI127 0 = true := by decide +kernel
theorem tb_ckI_127 : tb_ckI prog_11_method_3_code tbI127
  | 0 => tb_p127_0
  | j + 1 => tb_ckP_ge (show tbI127.length ≤ 40 * (j + 1) from by rw [show tbI127.length = 18 from rfl]; omega)
theorem tb_p128_0 : tb_ckP prog_12_method_2_code tbI128 0 = true := by decide +kernel
theorem tb_ckI_128 : tb_ckI prog_12_method_2_code tbI128
  | 0 => tb_p128_0
  | j + 1 => tb_ckP_ge (show tbI128.length ≤ 40 * (j + 1) from by rw [show tbI128.length = 19 from rfl]; omega)
theorem tb_p129_0 : tb_ckP prog_1_method_4_code tbI129 0 = true := by decide +kernel
theorem tb_ckI_129 : tb_ckI prog_1_method_4_code tbI129
  | 0 => tb_p129_0
  | j + 1 => tb_ckP_ge (show tbI129.length ≤ 40 * (j + 1) from by rw [show tbI129.length = 5 from rfl]; omega)
theorem tb_p130_0 : tb_ckP prog_1_method_5_code tbI130 0 = true := by decide +kernel
theorem tb_p130_1 : tb_ckP prog_1_method_5_code tbI130 40 = true := by decide +kernel
theorem tb_ckI_130 : tb_ckI prog_1_method_5_code tbI130
  | 0 => tb_p130_0
  | 1 => tb_p130_1
  | j + 2 => tb_ckP_ge (show tbI130.length ≤ 40 * (j + 2) from by rw [show tbI130.length = 62 from rfl]; omega)
theorem tb_p131_0 : tb_ckP prog_6_method_5_code tbI131 0 = true := by decide +kernel
theorem tb_p131_1 : tb_ckP prog_6_method_5_code tbI131 40 = true := by decide +kernel
theorem tb_ckI_131 : tb_ckI prog_6_method_5_code tbI131
  | 0 => tb_p131_0
  | 1 => tb_p131_1
  | j + 2 => tb_ckP_ge (show tbI131.length ≤ 40 * (j + 2) from by rw [show tbI131.length = 49 from rfl]; omega)
theorem tb_p132_0 : tb_ckP prog_1_method_6_code tbI132 0 = true := by decide +kernel
theorem tb_p132_1 : tb_ckP prog_1_method_6_code tbI132 40 = true := by decide +kernel
theorem tb_ckI_132 : tb_ckI prog_1_method_6_code tbI132
  | 0 => tb_p132_0
  | 1 => tb_p132_1
  | j + 2 => tb_ckP_ge (show tbI132.length ≤ 40 * (j + 2) from by rw [show tbI132.length = 59 from rfl]; omega)
theorem tb_p133_0 : tb_ckP prog_1_method_7_code tbI133 0 = true := by decide +kernel
theorem tb_p133_1 : tb_ckP prog_1_method_7_code tbI133 40 = true := by decide +kernel
theorem tb_ckI_133 : tb_ckI prog_1_method_7_code tbI133
  | 0 => tb_p133_0
  | 1 => tb_p133_1
  | j + 2 => tb_ckP_ge (show tbI133.length ≤ 40 * (j + 2) from by rw [show tbI133.length = 69 from rfl]; omega)
theorem tb_p134_0 : tb_ckP prog_3_method_15_code tbI134 0 = true := by decide +kernel
theorem tb_p134_1 : tb_ckP prog_3_method_15_code tbI134 40 = true := by decide +kernel
theorem tb_ckI_134 : tb_ckI prog_3_method_15_code tbI134
  | 0 => tb_p134_0
  | 1 => tb_p134_1
  | j + 2 => tb_ckP_ge (show tbI134.length ≤ 40 * (j + 2) from by rw [show tbI134.length = 80 from rfl]; omega)
theorem tb_p135_0 : tb_ckP prog_1_method_8_code tbI135 0 = true := by decide +kernel
theorem tb_ckI_135 : tb_ckI prog_1_method_8_code tbI135
  | 0 => tb_p135_0
  | j + 1 => tb_ckP_ge (show tbI135.length ≤ 40 * (j + 1) from by rw [show tbI135.length = 20 from rfl]; omega)
theorem tb_p136_0 : tb_ckP prog_1_method_9_code tbI136 0 = true := by decide +kernel
theorem tb_ckI_136 : tb_ckI prog_1_method_9_code tbI136
  | 0 => tb_p136_0
  | j + 1 => tb_ckP_ge (show tbI136.length ≤ 40 * (j + 1) from by rw [show tbI136.length = 31 from rfl]; omega)
theorem tb_p137_0 : tb_ckP prog_2_method_15_code tbI137 0 = true := by decide +kernel
theorem tb_p137_1 : tb_ckP prog_2_method_15_code tbI137 40 = true := by decide +kernel
theorem tb_p137_2 : tb_ckP prog_2_method_15_code tbI137 80 = true := by decide +kernel
theorem tb_ckI_137 : tb_ckI prog_2_method_15_code tbI137
  | 0 => tb_p137_0
  | 1 => tb_p137_1
  | 2 => tb_p137_2
  | j + 3 => tb_ckP_ge (show tbI137.length ≤ 40 * (j + 3) from by rw [show tbI137.length = 108 from rfl]; omega)
theorem tb_p138_0 : tb_ckP prog_1_method_10_code tbI138 0 = true := by decide +kernel
theorem tb_p138_1 : tb_ckP prog_1_method_10_code tbI138 40 = true := by decide +kernel
theorem tb_ckI_138 : tb_ckI prog_1_method_10_code tbI138
  | 0 => tb_p138_0
  | 1 => tb_p138_1
  | j + 2 => tb_ckP_ge (show tbI138.length ≤ 40 * (j + 2) from by rw [show tbI138.length = 46 from rfl]; omega)
theorem tb_p139_0 : tb_ckP prog_2_method_16_code tbI139 0 = true := by decide +kernel
theorem tb_p139_1 : tb_ckP prog_2_method_16_code tbI139 40 = true := by decide +kernel
theorem tb_p139_2 : tb_ckP prog_2_method_16_code tbI139 80 = true := by decide +kernel
theorem tb_p139_3 : tb_ckP prog_2_method_16_code tbI139 120 = true := by decide +kernel
theorem tb_ckI_139 : tb_ckI prog_2_method_16_code tbI139
  | 0 => tb_p139_0
  | 1 => tb_p139_1
  | 2 => tb_p139_2
  | 3 => tb_p139_3
  | j + 4 => tb_ckP_ge (show tbI139.length ≤ 40 * (j + 4) from by rw [show tbI139.length = 152 from rfl]; omega)
theorem tb_p140_0 : tb_ckP prog_2_method_7_code tbI140 0 = true := by decide +kernel
theorem tb_ckI_140 : tb_ckI prog_2_method_7_code tbI140
  | 0 => tb_p140_0
  | j + 1 => tb_ckP_ge (show tbI140.length ≤ 40 * (j + 1) from by rw [show tbI140.length = 34 from rfl]; omega)
theorem tb_p141_0 : tb_ckP prog_2_method_6_code tbI141 0 = true := by decide +kernel
theorem tb_ckI_141 : tb_ckI prog_2_method_6_code tbI141
  | 0 => tb_p141_0
  | j + 1 => tb_ckP_ge (show tbI141.length ≤ 40 * (j + 1) from by rw [show tbI141.length = 23 from rfl]; omega)
