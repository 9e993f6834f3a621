theorem tb_p122_0 : tb_ckP prog_12_method_7_code tbI122 0 = true := by decide +kernel
theorem tb_p122_1 : tb_ckP prog_12_method_7_code tbI122 40 = true := by decide +kernel
theorem tb_p122_2 : tb_ckP prog_12_method_7_code tbI122 80 = true := by decide +kernel
theorem tb_p122_3 : tb_ckP prog_12_method_7_code tbI122 120 = true := by decide +kernel
theorem tb_ln122 : tbI122.length = 144 := by decide +kernel
theorem tb_ckI_122 : tb_ckI prog_12_method_7_code tbI122
  | 0 => tb_p122_0
  | 1 => tb_p122_1
  | 2 => tb_p122_2
  | 3 => tb_p122_3
  | j + 4 => tb_ckP_ge (show tbI122.length ≤ 40 * (j + 4) from by rw [tb_ln122]; omega)
theorem tb_p123_0 : tb_ckP prog_12_method_8_code tbI123 0 = true := by decide +kernel
theorem tb_ln123 : tbI123.length = 37 := by decide +kernel
theorem tb_ckI_123 : tb_ckI prog_12_method_8_code tbI123
  | 0 => tb_p123_0
  | j + 1 => tb_ckP_ge (show tbI123.length ≤ 40 * (j + 1) from by rw [tb_ln123]; omega)
theorem tb_p124_0 : tb_ckP prog_11_method_5_code tbI124 0 = true := by decide +kernel
theorem tb_ln124 : tbI124.length = 19 := by decide +kernel
theorem tb_ckI_124 : tb_ckI prog_11_method_5_code tbI124
  | 0 => tb_p124_0
  | j + 1 => tb_ckP_ge (show tbI124.length ≤ 40 * (j + 1) from by rw [tb_ln124]; omega)
theorem tb_p125_0 : tb_ckP prog_11_method_3_code tbI125 0 = true := by decide +kernel
theorem tb_ln125 : tbI125.length = 18 := by decide +kernel
theorem tb_ckI_125 : tb_ckI prog_11_method_3_code tbI125
  | 0 => tb_p125_0
  | j + 1 => tb_ckP_ge (show tbI125.length ≤ 40 * (j + 1) from by rw [tb_ln125]; omega)
theorem tb_p126_0 : tb_ckP prog_12_method_2_code tbI126 0 = true := by decide +kernel
theorem tb_ln126 : tbI126.length = 19 := by decide +kernel
theorem tb_ckI_126 : tb_ckI prog_12_method_2_code tbI126
  | 0 => tb_p126_0
  | j + 1 => tb_ckP_ge (show tbI126.length ≤ 40 * (j + 1) from by rw [tb_ln126]; omega)
theorem tb_p127_0 : tb_ckP prog_1_method_4_code tbI127 0 = true := by decide +kernel
theorem tb_ln127 : tbI127.length = 5 := by decide +kernel
theorem tb_ckI_127 : tb_ckI prog_1_method_4_code tbI127
  | 0 => tb_p127_0
  | j + 1 => tb_ckP_ge (show tbI127.length ≤ 40 * (j + 1) from by rw [tb_ln127]; omega)
theorem tb_p128_0 : tb_ckP prog_1_method_5_code tbI128 0 = true := by decide +kernel
theorem tb_p128_1 : tb_ckP prog_1_method_5_code tbI128 40 = true := by decide +kernel
theorem tb_ln128 : tbI128.length = 62 := by decide +kernel
theorem tb_ckI_128 : tb_ckI prog_1_method_5_code tbI128
  | 0 => tb_p128_0
  | 1 => tb_p128_1
  | j + 2 => tb_ckP_ge (show tbI128.length ≤ 40 * (j + 2) from by rw [tb_ln128]; omega)
theorem tb_p129_0 : tb_ckP prog_6_method_5_code tbI129 0 = true := by decide +kernel
theorem tb_p129_1 : tb_ckP prog_6_method_5_code tbI129 40 = true := by decide +kernel
theorem tb_ln129 : tbI129.length = 49 := by decide +kernel
theorem tb_ckI_129 : tb_ckI prog_6_method_5_code tbI129
  | 0 => tb_p129_0
  | 1 => tb_p129_1
  | j + 2 => tb_ckP_ge (show tbI129.length ≤ 40 * (j + 2) from by rw [tb_ln129]; omega)
theorem tb_p130_0 : tb_ckP prog_1_method_6_code tbI130 0 = true := by decide +kernel
theorem tb_p130_1 : tb_ckP prog_1_method_6_code tbI130 40 = true := by decide +kernel
theorem tb_ln130 : tbI130.length = 59 := by decide +kernel
theorem tb_ckI_130 : tb_ckI prog_1_method_6_code tbI130
  | 0 => tb_p130_0
  | 1 => tb_p130_1
  | j + 2 => tb_ckP_ge (show tbI130.length ≤ 40 * (j + 2) from by rw [tb_ln130]; omega)
theorem tb_p131_0 : tb_ckP prog_1_method_7_code tbI131 0 = true := by decide +kernel
theorem tb_p131_1 : tb_ckP prog_1_method_7_code tbI131 40 = true := by decide +kernel
theorem tb_ln131 : tbI131.length = 69 := by decide +kernel
theorem tb_ckI_131 : tb_ckI prog_1_method_7_code tbI131
  | 0 => tb_p131_0
  | 1 => tb_p131_1
  | j + 2 => tb_ckP_ge (show tbI131.length ≤ 40 * (j + 2) from by rw [tb_ln131]; omega)
theorem tb_p132_0 : tb_ckP prog_3_method_15_code tbI132 0 = true := by decide +kernel
theorem tb_p132_1 : tb_ckP prog_3_method_15_code tbI132 40 = true := by decide +kernel
theorem tb_ln132 : tbI132.length = 80 := by decide +kernel
theorem tb_ckI_132 : tb_ckI prog_3_method_15_code tbI132
  | 0 => tb_p132_0
  | 1 => tb_p132_1
  | j + 2 => tb_ckP_ge (show tbI132.length ≤ 40 * (j + 2) from by rw [tb_ln132]; omega)
theorem tb_p133_0 : tb_ckP prog_1_method_8_code tbI133 0 = true := by decide +kernel
theorem tb_ln133 : tbI133.length = 20 := by decide +kernel
theorem tb_ckI_133 : tb_ckI prog_1_method_8_code tbI133
  | 0 => tb_p133_0
  | j + 1 => tb_ckP_ge (show tbI133.length ≤ 40 * (j + 1) from by rw [tb_ln133]; omega)
theorem tb_p134_0 : tb_ckP prog_1_method_9_code tbI134 0 = true := by decide +kernel
theorem tb_ln134 : tbI134.length = 31 := by decide +kernel
theorem tb_ckI_134 : tb_ckI prog_1_method_9_code tbI134
  | 0 => tb_p134_0
  | j + 1 => tb_ckP_ge (show tbI134.length ≤ 40 * (j + 1) from by rw [tb_ln134]; omega)
theorem tb_p135_0 : tb_ckP prog_2_method_15_code tbI135 0 = true := by decide +kernel
theorem tb_p135_1 : tb_ckP prog_2_method_15_code tbI135 40 = true := by decide +kernel
theorem tb_p135_2 : tb_ckP prog_2_method_15_code tbI135 80 = true := by decide +kernel
theorem tb_ln135 : tbI135.length = 108 := by decide +kernel
theorem tb_ckI_135 : tb_ckI prog_2_method_15_code tbI135
  | 0 => tb_p135_0
  | 1 => tb_p135_1
  | 2 => tb_p135_2
  | j + 3 => tb_ckP_ge (show tbI135.length ≤ 40 * (j + 3) from by rw [tb_ln135]; omega)
theorem tb_p136_0 : tb_ckP prog_1_method_10_code tbI136 0 = true := by decide +kernel
theorem tb_p136_1 : tb_ckP prog_1_method_10_code tbI136 40 = true := by decide +kernel
theorem tb_ln136 : tbI136.length = 46 := by decide +kernel
theorem tb_ckI_136 : tb_ckI prog_1_method_10_code tbI136
  | 0 => tb_p136_0
  | 1 => tb_p136_1
  | j + 2 => tb_ckP_ge (show tbI136.length ≤ 40 * (j + 2) from by rw [tb_ln136]; omega)
theorem tb_p137_0 : tb_ckP prog_2_method_16_code tbI137 0 = true := by decide +kernel
theorem tb_p137_1 : tb_ckP prog_2_method_16_code tbI137 40 = true := by decide +kernel
theorem tb_p137_2 : tb_ckP prog_2_method_16_code tbI137 80 = true := by decide +kernel
theorem tb_p137_3 : tb_ckP prog_2_method_16_code tbI137 120 = true := by decide +kernel
theorem tb_ln137 : tbI137.length = 152 := by decide +kernel
theorem tb_ckI_137 : tb_ckI prog_2_method_16_code tbI137
  | 0 => tb_p137_0
  | 1 => tb_p137_1
  | 2 => tb_p137_2
  | 3 => tb_p137_3
  | j + 4 => tb_ckP_ge (show tbI137.length ≤ 40 * (j + 4) from by rw [tb_ln137]; omega)
theorem tb_p138_0 : tb_ckP prog_2_method_7_code tbI138 0 = true := by decide +kernel
theorem tb_ln138 : tbI138.length = 34 := by decide +kernel
theorem tb_ckI_138 : tb_ckI prog_2_method_7_code tbI138
  | 0 => tb_p138_0
  | j + 1 => tb_ckP_ge (show tbI138.length ≤ 40 * (j + 1) from by rw [tb_ln138]; omega)
theorem tb_p139_0 : tb_ckP prog_2_method_6_code tbI139 0 = true := by decide +kernel
theorem tb_ln139 : tbI139.length = 23 := by decide +kernel
theorem tb_ckI_139 : tb_ckI prog_2_method_6_code tbI139
  | 0 => tb_p139_0
  | j + 1 => tb_ckP_ge (show tbI139.length ≤ 40 * (j + 1) from by rw [tb_ln139]; omega)
theorem tb_p140_0 : tb_ckP prog_1_method_11_code tbI140 0 = true := by decide +kernel
theorem tb_p140_1 : tb_ckP prog_1_method_11_code tbI140 40 = true := by decide +kernel
theorem tb_ln140 : tbI140.length = 58 := by decide +kernel
theorem tb_ckI_140 : tb_ckI prog_1_method_11_code tbI140
  | 0 => tb_p140_0
  | 1 => tb_p140_1
  | j + 2 => tb_ckP_ge (show tbI140.length ≤ 40 * (j + 2) from by rw [tb_ln140]; omega)
theorem tb_p141_0 : tb_ckP prog_11_method_6_code tbI141 0 = true := by decide +kernel
theorem tb_ln141 : tbI141.length = 36 := by decide +kernel
theorem tb_ckI_141 : tb_ckI prog_11_method_6_code tbI141
  | 0 => tb_p141_0
  | j + 1 => tb_ckP_ge (show tbI141.length ≤ 40 * (j + 1) from by rw [tb_ln141]; omega)
theorem tb_p142_0 : tb_ckP prog_1_method_12_code tbI142 0 = true := by decide +kernel
theorem tb_p142_1 : tb_ckP prog_1_method_12_code tbI142 40 = true := by decide +kernel
theorem tb_ln142 : tbI142.length = 53 := by decide +kernel
theorem tb_ckI_142 : tb_ckI prog_1_method_12_code tbI142
  | 0 => tb_p142_0
  | 1 => tb_p142_1
  | j + 2 => tb_ckP_ge (show tbI142.length ≤ 40 * (j + 2) from by rw [tb_ln142]; omega)
theorem tb_p143_0 : tb_ckP prog_2_method_12_code tbI143 0 = true := by decide +kernel
theorem tb_p143_1 : tb_ckP prog_2_method_12_code tbI143 40 = true := by decide +kernel
theorem tb_ln143 : tbI143.length = 41 := by decide +kernel
theorem tb_ckI_143 : tb_ckI prog_2_method_12_code tbI143
  | 0 => tb_p143_0
  | 1 => tb_p143_1
  | j + 2 => tb_ckP_ge (show tbI143.length ≤ 40 * (j + 2) from by rw [tb_ln143]; omega)
theorem tb_p144_0 : tb_ckP prog_11_method_7_code tbI144 0 = true := by decide +kernel
theorem tb_ln144 : tbI144.length = 29 := by decide +kernel
theorem tb_ckI_144 : tb_ckI prog_11_method_7_code tbI144
  | 0 => tb_p144_0
  | j + 1 => tb_ckP_ge (show tbI144.length ≤ 40 * (j + 1) from by rw [tb_ln144]; omega)
theorem tb_p145_0 : tb_ckP prog_1_method_13_code tbI145 0 = true := by decide +kernel
theorem tb_p145_1 : tb_ckP prog_1_method_13_code tbI145 40 = true := by decide +kernel
theorem tb_ln145 : tbI145.length = 67 := by decide +kernel
theorem tb_ckI_145 : tb_ckI prog_1_method_13_code tbI145
  | 0 => tb_p145_0
  | 1 => tb_p145_1
  | j + 2 => tb_ckP_ge (show tbI145.length ≤ 40 * (j + 2) from by rw [tb_ln145]; omega)
theorem tb_p146_0 : tb_ckP prog_2_method_14_code tbI146 0 = true := by decide +kernel
theorem tb_p146_1 : tb_ckP prog_2_method_14_code tbI146 40 = true := by decide +kernel
theorem tb_ln146 : tbI146.length = 49 := by decide +kernel
theorem tb_ckI_146 : tb_ckI prog_2_method_14_code tbI146
  | 0 => tb_p146_0
  | 1 => tb_p146_1
  | j + 2 => tb_ckP_ge (show tbI146.length ≤ 40 * (j + 2) from by rw [tb_ln146]; omega)
theorem tb_p147_0 : tb_ckP prog_1_method_14_code tbI147 0 = true := by decide +kernel
theorem tb_ln147 : tbI147.length = 11 := by decide +kernel
theorem tb_ckI_147 : tb_ckI prog_1_method_14_code tbI147
  | 0 => tb_p147_0
  | j + 1 => tb_ckP_ge (show tbI147.length ≤ 40 * (j + 1) from by rw [tb_ln147]; omega)
theorem tb_p148_0 : tb_ckP prog_4_method_4_code tbI148 0 = true := by decide +kernel
theorem tb_ln148 : tbI148.length = 9 := by decide +kernel
theorem tb_ckI_148 : tb_ckI prog_4_method_4_code tbI148
  | 0 => tb_p148_0
  | j + 1 => tb_ckP_ge (show tbI148.length ≤ 40 * (j + 1) from by rw [tb_ln148]; omega)
theorem tb_p149_0 : tb_ckP prog_4_method_8_code tbI149 0 = true := by decide +kernel
theorem tb_p149_1 : tb_ckP prog_4_method_8_code tbI149 40 = true := by decide +kernel
theorem tb_p149_2 : tb_ckP prog_4_method_8_code tbI149 80 = true := by decide +kernel
theorem tb_ln149 : tbI149.length = 104 := by decide +kernel
theorem tb_ckI_149 : tb_ckI prog_4_method_8_code tbI149
  | 0 => tb_p149_0
  | 1 => tb_p149_1
  | 2 => tb_p149_2
  | j + 3 => tb_ckP_ge (show tbI149.length ≤ 40 * (j + 3) from by rw [tb_ln149]; omega)
theorem tb_p150_0 : tb_ckP prog_4_method_9_code tbI150 0 = true := by decide +kernel
theorem tb_p150_1 : tb_ckP prog_4_method_9_code tbI150 40 = true := by decide +kernel
theorem tb_ln150 : tbI150.length = 57 := by decide +kernel
theorem tb_ckI_150 : tb_ckI prog_4_method_9_code tbI150
  | 0 => tb_p150_0
  | 1 => tb_p150_1
  | j + 2 => tb_ckP_ge (show tbI150.length ≤ 40 * (j + 2) from by rw [tb_ln150]; omega)
theorem tb_p151_0 : tb_ckP prog_4_method_10_code tbI151 0 = true := by decide +kernel
theorem tb_p151_1 : tb_ckP prog_4_method_10_code tbI151 40 = true := by decide +kernel
theorem tb_ln151 : tbI151.length = 55 := by decide +kernel
theorem tb_ckI_151 : tb_ckI prog_4_method_10_code tbI151
  | 0 => tb_p151_0
  | 1 => tb_p151_1
  | j + 2 => tb_ckP_ge (show tbI151.length ≤ 40 * (j + 2) from by rw [tb_ln151]; omega)
theorem tb_p152_0 : tb_ckP prog_1_method_15_code tbI152 0 = true := by decide +kernel
theorem tb_ln152 : tbI152.length = 18 := by decide +kernel
theorem tb_ckI_152 : tb_ckI prog_1_method_15_code tbI152
  | 0 => tb_p152_0
  | j + 1 => tb_ckP_ge (show tbI152.length ≤ 40 * (j + 1) from by rw [tb_ln152]; omega)
theorem tb_p153_0 : tb_ckP prog_1_method_16_code tbI153 0 = true := by decide +kernel
theorem tb_ln153 : tbI153.length = 21 := by decide +kernel
theorem tb_ckI_153 : tb_ckI prog_1_method_16_code tbI153
  | 0 => tb_p153_0
  | j + 1 => tb_ckP_ge (show tbI153.length ≤ 40 * (j + 1) from by rw [tb_ln153]; omega)
theorem tb_p154_0 : tb_ckP prog_4_method_2_code tbI154 0 = true := by decide +kernel
theorem tb_p154_1 : tb_ckP prog_4_method_2_code tbI154 40 = true := by decide +kernel
theorem tb_ln154 : tbI154.length = 62 := by decide +kernel
theorem tb_ckI_154 : tb_ckI prog_4_method_2_code tbI154
  | 0 => tb_p154_0
  | 1 => tb_p154_1
  | j + 2 => tb_ckP_ge (show tbI154.length ≤ 40 * (j + 2) from by rw [tb_ln154]; omega)
theorem tb_p155_0 : tb_ckP prog_1_method_17_code tbI155 0 = true := by decide +kernel
theorem tb_ln155 : tbI155.length = 12 := by decide +kernel
theorem tb_ckI_155 : tb_ckI prog_1_method_17_code tbI155
  | 0 => tb_p155_0
  | j + 1 => tb_ckP_ge (show tbI155.length ≤ 40 * (j + 1) from by rw [tb_ln155]; omega)
theorem tb_p156_0 : tb_ckP prog_1_method_18_code tbI156 0 = true := by decide +kernel
theorem tb_p156_1 : tb_ckP prog_1_method_18_code tbI156 40 = true := by decide +kernel
theorem tb_ln156 : tbI156.length = 48 := by decide +kernel
theorem tb_ckI_156 : tb_ckI prog_1_method_18_code tbI156
  | 0 => tb_p156_0
  | 1 => tb_p156_1
  | j + 2 => tb_ckP_ge (show tbI156.length ≤ 40 * (j + 2) from by rw [tb_ln156]; omega)
theorem tb_p157_0 : tb_ckP prog_4_method_5_code tbI157 0 = true := by decide +kernel
theorem tb_ln157 : tbI157.length = 30 := by decide +kernel
theorem tb_ckI_157 : tb_ckI prog_4_method_5_code tbI157
  | 0 => tb_p157_0
  | j + 1 => tb_ckP_ge (show tbI157.length ≤ 40 * (j + 1) from by rw [tb_ln157]; omega)
theorem tb_p158_0 : tb_ckP prog_4_method_6_code tbI158 0 = true := by decide +kernel
theorem tb_p158_1 : tb_ckP prog_4_method_6_code tbI158 40 = true := by decide +kernel
theorem tb_ln158 : tbI158.length = 46 := by decide +kernel
theorem tb_ckI_158 : tb_ckI prog_4_method_6_code tbI158
  | 0 => tb_p158_0
  | 1 => tb_p158_1
  | j + 2 => tb_ckP_ge (show tbI158.length ≤ 40 * (j + 2) from by rw [tb_ln158]; omega)
theorem tb_p159_0 : tb_ckP prog_4_method_12_code tbI159 0 = true := by decide +kernel
theorem tb_p159_1 : tb_ckP prog_4_method_12_code tbI159 40 = true := by decide +kernel
theorem tb_ln159 : tbI159.length = 77 := by decide +kernel
theorem tb_ckI_159 : tb_ckI prog_4_method_12_code tbI159
  | 0 => tb_p159_0
  | 1 => tb_p159_1
  | j + 2 => tb_ckP_ge (show tbI159.length ≤ 40 * (j + 2) from by rw [tb_ln159]; omega)
theorem tb_p160_0 : tb_ckP prog_4_method_3_code tbI160 0 = true := by decide +kernel
theorem tb_ln160 : tbI160.length = 18 := by decide +kernel
theorem tb_ckI_160 : tb_ckI prog_4_method_3_code tbI160
  | 0 => tb_p160_0
  | j + 1 => tb_ckP_ge (show tbI160.length ≤ 40 * (j + 1) from by rw [tb_ln160]; omega)
theorem tb_p161_0 : tb_ckP prog_4_method_7_code tbI161 0 = true := by decide +kernel
theorem tb_p161_1 : tb_ckP prog_4_method_7_code tbI161 40 = true := by decide +kernel
theorem tb_ln161 : tbI161.length = 69 := by decide +kernel
theorem tb_ckI_161 : tb_ckI prog_4_method_7_code tbI161
  | 0 => tb_p161_0
  | 1 => tb_p161_1
  | j + 2 => tb_ckP_ge (show tbI161.length ≤ 40 * (j + 2) from by rw [tb_ln161]; omega)
theorem tb_p162_0 : tb_ckP prog_1_method_19_code tbI162 0 = true := by decide +kernel
theorem tb_ln162 : tbI162.length = 26 := by decide +kernel
theorem tb_ckI_162 : tb_ckI prog_1_method_19_code tbI162
  | 0 => tb_p162_0
  | j + 1 => tb_ckP_ge (show tbI162.length ≤ 40 * (j + 1) from by rw [tb_ln162]; omega)
theorem tb_p163_0 : tb_ckP prog_4_method_13_code tbI163 0 = true := by decide +kernel
theorem tb_p163_1 : tb_ckP prog_4_method_13_code tbI163 40 = true := by decide +kernel
theorem tb_ln163 : tbI163.length = 67 := by decide +kernel
theorem tb_ckI_163 : tb_ckI prog_4_method_13_code tbI163
  | 0 => tb_p163_0
  | 1 => tb_p163_1
  | j + 2 => tb_ckP_ge (show tbI163.length ≤ 40 * (j + 2) from by rw [tb_ln163]; omega)
theorem tb_p164_0 : tb_ckP prog_4_method_14_code tbI164 0 = true := by decide +kernel
theorem tb_p164_1 : tb_ckP prog_4_method_14_code tbI164 40 = true := by decide +kernel
theorem tb_ln164 : tbI164.length = 59 := by decide +kernel
theorem tb_ckI_164 : tb_ckI prog_4_method_14_code tbI164
  | 0 => tb_p164_0
  | 1 => tb_p164_1
  | j + 2 => tb_ckP_ge (show tbI164.length ≤ 40 * (j + 2) from by rw [tb_ln164]; omega)
theorem tb_p165_0 : tb_ckP prog_4_method_11_code tbI165 0 = true := by decide +kernel
theorem tb_p165_1 : tb_ckP prog_4_method_11_code tbI165 40 = true := by decide +kernel
theorem tb_ln165 : tbI165.length = 52 := by decide +kernel
theorem tb_ckI_165 : tb_ckI prog_4_method_11_code tbI165
  | 0 => tb_p165_0
  | 1 => tb_p165_1
  | j + 2 => tb_ckP_ge (show tbI165.length ≤ 40 * (j + 2) from by rw [tb_ln165]; omega)
theorem tb_p166_0 : tb_ckP prog_1_method_20_code tbI166 0 = true := by decide +kernel
theorem tb_p166_1 : tb_ckP prog_1_method_20_code tbI166 40 = true := by decide +kernel
theorem tb_ln166 : tbI166.length = 51 := by decide +kernel
theorem tb_ckI_166 : tb_ckI prog_1_method_20_code tbI166
  | 0 => tb_p166_0
  | 1 => tb_p166_1
  | j + 2 => tb_ckP_ge (show tbI166.length ≤ 40 * (j + 2) from by rw [tb_ln166]; omega)
theorem tb_p167_0 : tb_ckP prog_1_method_21_code tbI167 0 = true := by decide +kernel
theorem tb_ln167 : tbI167.length = 29 := by decide +kernel
theorem tb_ckI_167 : tb_ckI prog_1_method_21_code tbI167
  | 0 => tb_p167_0
  | j + 1 => tb_ckP_ge (show tbI167.length ≤ 40 * (j + 1) from by rw [tb_ln167]; omega)
theorem tb_p168_0 : tb_ckP prog_9_method_2_code tbI168 0 = true := by decide +kernel
theorem tb_p168_1 : tb_ckP prog_9_method_2_code tbI168 40 = true := by decide +kernel
theorem tb_p168_2 : tb_ckP prog_9_method_2_code tbI168 80 = true := by decide +kernel
theorem tb_ln168 : tbI168.length = 87 := by decide +kernel
theorem tb_ckI_168 : tb_ckI prog_9_method_2_code tbI168
  | 0 => tb_p168_0
  | 1 => tb_p168_1
  | 2 => tb_p168_2
  | j + 3 => tb_ckP_ge (show tbI168.length ≤ 40 * (j + 3) from by rw [tb_ln168]; omega)
theorem tb_p169_0 : tb_ckP prog_9_method_3_code tbI169 0 = true := by decide +kernel
theorem tb_p169_1 : tb_ckP prog_9_method_3_code tbI169 40 = true := by decide +kernel
theorem tb_p169_2 : tb_ckP prog_9_method_3_code tbI169 80 = true := by decide +kernel
theorem tb_p169_3 : tb_ckP prog_9_method_3_code tbI169 120 = true := by decide +kernel
theorem tb_p169_4 : tb_ckP prog_9_method_3_code tbI169 160 = true := by decide +kernel
theorem tb_ln169 : tbI169.length = 198 := by decide +kernel
theorem tb_ckI_169 : tb_ckI prog_9_method_3_code tbI169
  | 0 => tb_p169_0
  | 1 => tb_p169_1
  | 2 => tb_p169_2
  | 3 => tb_p169_3
  | 4 => tb_p169_4
  | j + 5 => tb_ckP_ge (show tbI169.length ≤ 40 * (j + 5) from by rw [tb_ln169]; omega)
theorem tb_p170_0 : tb_ckP prog_9_method_9_code tbI170 0 = true := by decide +kernel
theorem tb_p170_1 : tb_ckP prog_9_method_9_code tbI170 40 = true := by decide +kernel
theorem tb_p170_2 : tb_ckP prog_9_method_9_code tbI170 80 = true := by decide +kernel
theorem tb_p170_3 : tb_ckP prog_9_method_9_code tbI170 120 = true := by decide +kernel
theorem tb_ln170 : tbI170.length = 146 := by decide +kernel
theorem tb_ckI_170 : tb_ckI prog_9_method_9_code tbI170
  | 0 => tb_p170_0
  | 1 => tb_p170_1
  | 2 => tb_p170_2
  | 3 => tb_p170_3
  | j + 4 => tb_ckP_ge (show tbI170.length ≤ 40 * (j + 4) from by rw [tb_ln170]; omega)
theorem tb_p171_0 : tb_ckP prog_9_method_11_code tbI171 0 = true := by decide +kernel
theorem tb_ln171 : tbI171.length = 35 := by decide +kernel
theorem tb_ckI_171 : tb_ckI prog_9_method_11_code tbI171
  | 0 => tb_p171_0
  | j + 1 => tb_ckP_ge (show tbI171.length ≤ 40 * (j + 1) from by rw [tb_ln171]; omega)
theorem tb_p172_0 : tb_ckP prog_9_method_12_code tbI172 0 = true := by decide +kernel
theorem tb_p172_1 : tb_ckP prog_9_method_12_code tbI172 40 = true := by decide +kernel
theorem tb_ln172 : tbI172.length = 76 := by decide +kernel
theorem tb_ckI_172 : tb_ckI prog_9_method_12_code tbI172
  | 0 => tb_p172_0
  | 1 => tb_p172_1
  | j + 2 => tb_ckP_ge (show tbI172.length ≤ 40 * (j + 2) from by rw [tb_ln172]; omega)
theorem tb_p173_0 : tb_ckP prog_11_method_8_code tbI173 0 = true := by decide +kernel
theorem tb_p173_1 : tb_ckP prog_11_method_8_code tbI173 40 = true := by decide +kernel
theorem tb_ln173 : tbI173.length = 68 := by decide +kernel
theorem tb_ckI_173 : tb_ckI prog_11_method_8_code tbI173
  | 0 => tb_p173_0
  | 1 => tb_p173_1
  | j + 2 => tb_ckP_ge (show tbI173.length ≤ 40 * (j + 2) from by rw [tb_ln173]; omega)
theorem tb_p174_0 : tb_ckP prog_11_method_9_code tbI174 0 = true := by decide +kernel
theorem tb_p174_1 : tb_ckP prog_11_method_9_code tbI174 40 = true := by decide +kernel
theorem tb_ln174 : tbI174.length = 72 := by decide +kernel
theorem tb_ckI_174 : tb_ckI prog_11_method_9_code tbI174
  | 0 => tb_p174_0
  | 1 => tb_p174_1
  | j + 2 => tb_ckP_ge (show tbI174.length ≤ 40 * (j + 2) from by rw [tb_ln174]; omega)
theorem tb_p175_0 : tb_ckP prog_9_method_4_code tbI175 0 = true := by decide +kernel
theorem tb_ln175 : tbI175.length = 16 := by decide +kernel
theorem tb_ckI_175 : tb_ckI prog_9_method_4_code tbI175
  | 0 => tb_p175_0
  | j + 1 => tb_ckP_ge (show tbI175.length ≤ 40 * (j + 1) from by rw [tb_ln175]; omega)
theorem tb_p176_0 : tb_ckP prog_9_method_10_code tbI176 0 = true := by decide +kernel
theorem tb_p176_1 : tb_ckP prog_9_method_10_code tbI176 40 = true := by decide +kernel
theorem tb_ln176 : tbI176.length = 47 := by decide +kernel
theorem tb_ckI_176 : tb_ckI prog_9_method_10_code tbI176
  | 0 => tb_p176_0
  | 1 => tb_p176_1
  | j + 2 => tb_ckP_ge (show tbI176.length ≤ 40 * (j + 2) from by rw [tb_ln176]; omega)
