theorem tb_p142_0 : tb_ckP prog_1_method_11_code tbI142 0 = true := by decide +kernel
theorem tb_p142_1 : tb_ckP prog_1_method_11_code tbI142 40 = true := by decide +kernel
theorem tb_ckI_142 : tb_ckI prog_1_method_11_code tbI142
  | 0 => tb_p142_0
  | 1 => tb_p142_1
  | j + 2 => tb_ckP_ge (show tbI142.length ≤ 40 * (j + 2) from by rw [show tbI142.length = 58 from rfl]; omega)
theorem tb_p143_0 : tb_ckP prog_11_method_6_code tbI143 0 = true := by decide +kernel
theorem tb_ckI_143 : tb_ckI prog_11_method_6_code tbI143
  | 0 => tb_p143_0
  | j + 1 => tb_ckP_ge (show tbI143.length ≤ 40 * (j + 1) from by rw [show tbI143.length = 36 from rfl]; omega)
theorem tb_p144_0 : tb_ckP prog_1_method_12_code tbI144 0 = true := by decide +kernel
theorem tb_p144_1 : tb_ckP prog_1_method_12_code tbI144 40 = true := by decide +kernel
theorem tb_ckI_144 : tb_ckI prog_1_method_12_code tbI144
  | 0 => tb_p144_0
  | 1 => tb_p144_1
  | j + 2 => tb_ckP_ge (show tbI144.length ≤ 40 * (j + 2) from by rw [show tbI144.length = 53 from rfl]; omega)
theorem tb_p145_0 : tb_ckP prog_2_method_12_code tbI145 0 = true := by decide +kernel
theorem tb_p145_1 : tb_ckP prog_2_method_12_code tbI145 40 = true := by decide +kernel
theorem tb_ckI_145 : tb_ckI prog_2_method_12_code tbI145
  | 0 => tb_p145_0
  | 1 => tb_p145_1
  | j + 2 => tb_ckP_ge (show tbI145.length ≤ 40 * (j + 2) from by rw [show tbI145.length = 41 from rfl]; omega)
theorem tb_p146_0 : tb_ckP prog_11_method_7_code tbI146 0 = true := by decide +kernel
theorem tb_ckI_146 : tb_ckI prog_11_method_7_code tbI146
  | 0 => tb_p146_0
  | j + 1 => tb_ckP_ge (show tbI146.length ≤ 40 * (j + 1) from by rw [show tbI146.length = 29 from rfl]; omega)
theorem tb_p147_0 : tb_ckP prog_1_method_13_code tbI147 0 = true := by decide +kernel
theorem tb_p147_1 : tb_ckP prog_1_method_13_code tbI147 40 = true := by decide +kernel
theorem tb_ckI_147 : tb_ckI prog_1_method_13_code tbI147
  | 0 => tb_p147_0
  | 1 => tb_p147_1
  | j + 2 => tb_ckP_ge (show tbI147.length ≤ 40 * (j + 2) from by rw [show tbI147.length = 67 from rfl]; omega)
theorem tb_p148_0 : tb_ckP prog_2_method_14_code tbI148 0 = true := by decide +kernel
theorem tb_p148_1 : tb_ckP prog_2_method_14_code tbI148 40 = true := by decide +kernel
theorem tb_ckI_148 : tb_ckI prog_2_method_14_code tbI148
  | 0 => tb_p148_0
  | 1 => tb_p148_1
  | j + 2 => tb_ckP_ge (show tbI148.length ≤ 40 * (j + 2) from by rw [show tbI148.length = 49 from rfl]; omega)
theorem tb_p149_0 : tb_ckP prog_1_method_14_code tbI149 0 = true := by decide +kernel
theorem tb_ckI_149 : tb_ckI prog_1_method_14_code tbI149
  | 0 => tb_p149_0
  | j + 1 => tb_ckP_ge (show tbI149.length ≤ 40 * (j + 1) from by rw [show tbI149.length = 11 from rfl]; omega)
theorem tb_p150_0 : tb_ckP prog_4_method_4_code tbI150 0 = true := by decide +kernel
theorem tb_ckI_150 : tb_ckI prog_4_method_4_code tbI150
  | 0 => tb_p150_0
  | j + 1 => tb_ckP_ge (show tbI150.length ≤ 40 * (j + 1) from by rw [show tbI150.length = 9 from rfl]; omega)
theorem tb_p151_0 : tb_ckP prog_4_method_8_code tbI151 0 = true := by decide +kernel
theorem tb_p151_1 : tb_ckP prog_4_method_8_code tbI151 40 = true := by decide +kernel
theorem tb_p151_2 : tb_ckP prog_4_method_8_code tbI151 80 = true := by decide +kernel
theorem tb_ckI_151 : tb_ckI prog_4_method_8_code tbI151
  | 0 => tb_p151_0
  | 1 => tb_p151_1
  | 2 => tb_p151_2
  | j + 3 => tb_ckP_ge (show tbI151.length ≤ 40 * (j + 3) from by rw [show tbI151.length = 104 from rfl]; omega)
theorem tb_p152_0 : tb_ckP prog_4_method_9_code tbI152 0 = true := by decide +kernel
theorem tb_p152_1 : tb_ckP prog_4_method_9_code tbI152 40 = true := by decide +kernel
theorem tb_ckI_152 : tb_ckI prog_4_method_9_code tbI152
  | 0 => tb_p152_0
  | 1 => tb_p152_1
  | j + 2 => tb_ckP_ge (show tbI152.length ≤ 40 * (j + 2) from by rw [show tbI152.length = 57 from rfl]; omega)
theorem tb_p153_0 : tb_ckP prog_4_method_10_code tbI153 0 = true := by decide +kernel
theorem tb_p153_1 : tb_ckP prog_4_method_10_code tbI153 40 = true := by decide +kernel
theorem tb_ckI_153 : tb_ckI prog_4_method_10_code tbI153
  | 0 => tb_p153_0
  | 1 => tb_p153_1
  | j + 2 => tb_ckP_ge (show tbI153.length ≤ 40 * (j + 2) from by rw [show tbI153.length = 55 from rfl]; omega)
theorem tb_p154_0 : tb_ckP prog_1_method_15_code tbI154 0 = true := by decide +kernel
theorem tb_ckI_154 : tb_ckI prog_1_method_15_code tbI154
  | 0 => tb_p154_0
  | j + 1 => tb_ckP_ge (show tbI154.length ≤ 40 * (j + 1) from by rw [show tbI154.length = 18 from rfl]; omega)
theorem tb_p155_0 : tb_ckP prog_1_method_16_code tbI155 0 = true := by decide +kernel
theorem tb_ckI_155 : tb_ckI prog_1_method_16_code tbI155
  | 0 => tb_p155_0
  | j + 1 => tb_ckP_ge (show tbI155.length ≤ 40 * (j + 1) from by rw [show tbI155.length = 21 from rfl]; omega)
theorem tb_p156_0 : tb_ckP prog_4_method_2_code tbI156 0 = true := by decide +kernel
theorem tb_p156_1 : tb_ckP prog_4_method_2_code tbI156 40 = true := by decide +kernel
theorem tb_ckI_156 : tb_ckI prog_4_method_2_code tbI156
  | 0 => tb_p156_0
  | 1 => tb_p156_1
  | j + 2 => tb_ckP_ge (show tbI156.length ≤ 40 * (j + 2) from by rw [show tbI156.length = 62 from rfl]; omega)
theorem tb_p157_0 : tb_ckP prog_1_method_17_code tbI157 0 = true := by decide +kernel
theorem tb_ckI_157 : tb_ckI prog_1_method_17_code tbI157
  | 0 => tb_p157_0
  | j + 1 => tb_ckP_ge (show tbI157.length ≤ 40 * (j + 1) from by rw [show tbI157.length = 12 from rfl]; omega)
theorem tb_p158_0 : tb_ckP prog_1_method_18_code tbI158 0 = true := by decide +kernel
theorem tb_p158_1 : tb_ckP prog_1_method_18_code tbI158 40 = true := by decide +kernel
theorem tb_ckI_158 : tb_ckI prog_1_method_18_code tbI158
  | 0 => tb_p158_0
  | 1 => tb_p158_1
  | j + 2 => tb_ckP_ge (show tbI158.length ≤ 40 * (j + 2) from by rw [show tbI158.length = 48 from rfl]; omega)
theorem tb_p159_0 : tb_ckP prog_4_method_5_code tbI159 0 = true := by decide +kernel
theorem tb_ckI_159 : tb_ckI prog_4_method_5_code tbI159
  | 0 => tb_p159_0
  | j + 1 => tb_ckP_ge (show tbI159.length ≤ 40 * (j + 1) from by rw [show tbI159.length = 30 from rfl]; omega)
theorem tb_p160_0 : tb_ckP prog_4_method_6_code tbI160 0 = true := by decide +kernel
theorem tb_p160_1 : tb_ckP prog_4_method_6_code tbI160 40 = true := by decide +kernel
theorem tb_ckI_160 : tb_ckI prog_4_method_6_code tbI160
  | 0 => tb_p160_0
  | 1 => tb_p160_1
  | j + 2 => tb_ckP_ge (show tbI160.length ≤ 40 * (j + 2) from by rw [show tbI160.length = 46 from rfl]; omega)
theorem tb_p161_0 : tb_ckP prog_4_method_12_code tbI161 0 = true := by decide +kernel
theorem tb_p161_1 : tb_ckP prog_4_method_12_code tbI161 40 = true := by decide +kernel
theorem tb_ckI_161 : tb_ckI prog_4_method_12_code tbI161
  | 0 => tb_p161_0
  | 1 => tb_p161_1
  | j + 2 => tb_ckP_ge (show tbI161.length ≤ 40 * (j + 2) from by rw [show tbI161.length = 77 from rfl]; omega)
theorem tb_p162_0 : tb_ckP prog_4_method_3_code tbI162 0 = true := by decide +kernel
theorem tb_ckI_162 : tb_ckI prog_4_method_3_code tbI162
  | 0 => tb_p162_0
  | j + 1 => tb_ckP_ge (show tbI162.length ≤ 40 * (j + 1) from by rw [show tbI162.length = 18 from rfl]; omega)
theorem tb_p163_0 : tb_ckP prog_4_method_7_code tbI163 0 = true := by decide +kernel
theorem tb_p163_1 : tb_ckP prog_4_method_7_code tbI163 40 = true := by decide +kernel
theorem tb_ckI_163 : tb_ckI prog_4_method_7_code tbI163
  | 0 => tb_p163_0
  | 1 => tb_p163_1
  | j + 2 => tb_ckP_ge (show tbI163.length ≤ 40 * (j + 2) from by rw [show tbI163.length = 69 from rfl]; omega)
theorem tb_p164_0 : tb_ckP prog_1_method_19_code tbI164 0 = true := by decide +kernel
theorem tb_ckI_164 : tb_ckI prog_1_method_19_code tbI164
  | 0 => tb_p164_0
  | j + 1 => tb_ckP_ge (show tbI164.length ≤ 40 * (j + 1) from by rw [show tbI164.length = 26 from rfl]; omega)
theorem tb_p165_0 : tb_ckP prog_4_method_13_code tbI165 0 = true := by decide +kernel
theorem tb_p165_1 : tb_ckP prog_4_method_13_code tbI165 40 = true := by decide +kernel
theorem tb_ckI_165 : tb_ckI prog_4_method_13_code tbI165
  | 0 => tb_p165_0
  | 1 => tb_p165_1
  | j + 2 => tb_ckP_ge (show tbI165.length ≤ 40 * (j + 2) from by rw [show tbI165.length = 67 from rfl]; omega)
theorem tb_p166_0 : tb_ckP prog_4_method_14_code tbI166 0 = true := by decide +kernel
theorem tb_p166_1 : tb_ckP prog_4_method_14_code tbI166 40 = true := by decide +kernel
theorem tb_ckI_166 : tb_ckI prog_4_method_14_code tbI166
  | 0 => tb_p166_0
  | 1 => tb_p166_1
  | j + 2 => tb_ckP_ge (show tbI166.length ≤ 40 * (j + 2) from by rw [show tbI166.length = 59 from rfl]; omega)
theorem tb_p167_0 : tb_ckP prog_4_method_11_code tbI167 0 = true := by decide +kernel
theorem tb_p167_1 : tb_ckP prog_4_method_11_code tbI167 40 = true := by decide +kernel
theorem tb_ckI_167 : tb_ckI prog_4_method_11_code tbI167
  | 0 => tb_p167_0
  | 1 => tb_p167_1
  | j + 2 => tb_ckP_ge (show tbI167.length ≤ 40 * (j + 2) from by rw [show tbI167.length = 52 from rfl]; omega)
theorem tb_p168_0 : tb_ckP prog_1_method_20_code tbI168 0 = true := by decide +kernel
theorem tb_p168_1 : tb_ckP prog_1_method_20_code tbI168 40 = true := by decide +kernel
theorem tb_ckI_168 : tb_ckI prog_1_method_20_code tbI168
  | 0 => tb_p168_0
  | 1 => tb_p168_1
  | j + 2 => tb_ckP_ge (show tbI168.length ≤ 40 * (j + 2) from by rw [show tbI168.length = 51 from rfl]; omega)
theorem tb_p169_0 : tb_ckP prog_1_method_21_code tbI169 0 = true := by decide +kernel
theorem tb_ckI_169 : tb_ckI prog_1_method_21_code tbI169
  | 0 => tb_p169_0
  | j + 1 => tb_ckP_ge (show tbI169.length ≤ 40 * (j + 1) from by rw [show tbI169.length = 29 from rfl]; omega)
theorem tb_p170_0 : tb_ckP prog_9_method_2_code tbI170 0 = true := by decide +kernel
theorem tb_p170_1 : tb_ckP prog_9_method_2_code tbI170 40 = true := by decide +kernel
theorem tb_p170_2 : tb_ckP prog_9_method_2_code tbI170 80 = true := by decide +kernel
theorem tb_ckI_170 : tb_ckI prog_9_method_2_code tbI170
  | 0 => tb_p170_0
  | 1 => tb_p170_1
  | 2 => tb_p170_2
  | j + 3 => tb_ckP_ge (show tbI170.length ≤ 40 * (j + 3) from by rw [show tbI170.length = 87 from rfl]; omega)
theorem tb_p171_0 : tb_ckP prog_9_method_3_code tbI171 0 = true := by decide +kernel
theorem tb_p171_1 : tb_ckP prog_9_method_3_code tbI171 40 = true := by decide +kernel
theorem tb_p171_2 : tb_ckP prog_9_method_3_code tbI171 80 = true := by decide +kernel
theorem tb_p171_3 : tb_ckP prog_9_method_3_code tbI171 120 = true := by decide +kernel
theorem tb_p171_4 : tb_ckP prog_9_method_3_code tbI171 160 = true := by decide +kernel
theorem tb_ckI_171 : tb_ckI prog_9_method_3_code tbI171
  | 0 => tb_p171_0
  | 1 => tb_p171_1
  | 2 => tb_p171_2
  | 3 => tb_p171_3
  | 4 => tb_p171_4
  | j + 5 => tb_ckP_ge (show tbI171.length ≤ 40 * (j + 5) from by rw [show tbI171.length = 198 from rfl]; omega)
theorem tb_p172_0 : tb_ckP prog_9_method_9_code tbI172 0 = true := by decide +kernel
theorem tb_p172_1 : tb_ckP prog_9_method_9_code tbI172 40 = true := by decide +kernel
theorem tb_p172_2 : tb_ckP prog_9_method_9_code tbI172 80 = true := by decide +kernel
theorem tb_p172_3 : tb_ckP prog_9_method_9_code tbI172 120 = true := by decide +kernel
theorem tb_ckI_172 : tb_ckI prog_9_method_9_code tbI172
  | 0 => tb_p172_0
  | 1 => tb_p172_1
  | 2 => tb_p172_2
  | 3 => tb_p172_3
  | j + 4 => tb_ckP_ge (show tbI172.length ≤ 40 * (j + 4) from by rw [show tbI172.length = 146 from rfl]; omega)
theorem tb_p173_0 : tb_ckP prog_9_method_11_code tbI173 0 = true := by decide +kernel
theorem tb_ckI_173 : tb_ckI prog_9_method_11_code tbI173
  | 0 => tb_p173_0
  | j + 1 => tb_ckP_ge (show tbI173.length ≤ 40 * (j + 1) from by rw [show tbI173.length = 35 from rfl]; omega)
theorem tb_p174_0 : tb_ckP prog_9_method_12_code tbI174 0 = true := by decide +kernel
theorem tb_p174_1 : tb_ckP prog_9_method_12_code tbI174 40 = true := by decide +kernel
theorem tb_ckI_174 : tb_ckI prog_9_method_12_code tbI174
  | 0 => tb_p174_0
  | 1 => tb_p174_1
  | j + 2 => tb_ckP_ge (show tbI174.length ≤ 40 * (j + 2) from by rw [show tbI174.length = 76 from rfl]; omega)
theorem tb_p175_0 : tb_ckP prog_11_method_8_code tbI175 0 = true := by decide +kernel
theorem tb_p175_1 : tb_ckP prog_11_method_8_code tbI175 40 = true := by decide +kernel
theorem tb_ckI_175 : tb_ckI prog_11_method_8_code tbI175
  | 0 => tb_p175_0
  | 1 => tb_p175_1
  | j + 2 => tb_ckP_ge (show tbI175.length ≤ 40 * (j + 2) from by rw [show tbI175.length = 68 from rfl]; omega)
theorem tb_p176_0 : tb_ckP prog_11_method_9_code tbI176 0 = true := by decide +kernel
theorem tb_p176_1 : tb_ckP prog_11_method_9_code tbI176 40 = true := by decide +kernel
theorem tb_ckI_176 : tb_ckI prog_11_method_9_code tbI176
  | 0 => tb_p176_0
  | 1 => tb_p176_1
  | j + 2 => tb_ckP_ge (show tbI176.length ≤ 40 * (j + 2) from by rw [show tbI176.length = 72 from rfl]; omega)
theorem tb_p177_0 : tb_ckP prog_9_method_4_code tbI177 0 = true := by decide +kernel
theorem tb_ckI_177 : tb_ckI prog_9_method_4_code tbI177
  | 0 => tb_p177_0
  | j + 1 => tb_ckP_ge (show tbI177.length ≤ 40 * (j + 1) from by rw [show tbI177.length = 16 from rfl]; omega)
theorem tb_p178_0 : tb_ckP prog_9_method_10_code tbI178 0 = true := by decide +kernel
theorem tb_p178_1 : tb_ckP prog_9_method_10_code tbI178 40 = true := by decide +kernel
theorem tb_ckI_178 : tb_ckI prog_9_method_10_code tbI178
  | 0 => tb_p178_0
  | 1 => tb_p178_1
  | j + 2 => tb_ckP_ge (show tbI178.length ≤ 40 * (j + 2) from by rw [show tbI178.length = 47 from rfl]; omega)
theorem tb_p179_0 : tb_ckP prog_9_method_19_code tbI179 0 = true := by decide +kernel
theorem tb_p179_1 : tb_ckP prog_9_method_19_code tbI179 40 = true := by decide +kernel
theorem tb_p179_2 : tb_ckP prog_9_method_19_code tbI179 80 = true := by decide +kernel
theorem tb_p179_3 : tb_ckP prog_9_method_19_code tbI179 120 = true := by decide +kernel
theorem tb_p179_4 : tb_ckP prog_9_method_19_code tbI179 160 = true := by decide +kernel
theorem tb_ckI_179 : tb_ckI prog_9_method_19_code tbI179
  | 0 => tb_p179_0
  | 1 => tb_p179_1
  | 2 => tb_p179_2
  | 3 => tb_p179_3
  | 4 => tb_p179_4
  | j + 5 => tb_ckP_ge (show tbI179.length ≤ 40 * (j + 5) from by rw [show tbI179.length = 169 from rfl]; omega)
theorem tb_p180_0 : tb_ckP prog_9_method_20_code tbI180 0 = true := by decide +kernel
theorem tb_p180_1 : tb_ckP prog_9_method_20_code tbI180 40 = true := by decide +kernel
theorem tb_p180_2 : tb_ckP prog_9_method_20_code tbI180 80 = true := by decide +kernel
theorem tb_p180_3 : tb_ckP prog_9_method_20_code tbI180 120 = true := by decide +kernel
theorem tb_ckI_180 : tb_ckI prog_9_method_20_code tbI180
  | 0 => tb_p180_0
  | 1 => tb_p180_1
  | 2 => tb_p180_2
  | 3 => tb_p180_3
  | j + 4 => tb_ckP_ge (show tbI180.length ≤ 40 * (j + 4) from by rw [show tbI180.length = 141 from rfl]; omega)
theorem tb_p181_0 : tb_ckP prog_9_method_22_code tbI181 0 = true := by decide +kernel
theorem tb_ckI_181 : tb_ckI prog_9_method_22_code tbI181
  | 0 => tb_p181_0
  | j + 1 => tb_ckP_ge (show tbI181.length ≤ 40 * (j + 1) from by rw [show tbI181.length = 29 from rfl]; omega)
theorem tb_p182_0 : tb_ckP prog_9_method_8_code tbI182 0 = true := by decide +kernel
theorem tb_ckI_182 : tb_ckI prog_9_method_8_code tbI182
  | 0 => tb_p182_0
  | j + 1 => tb_ckP_ge (show tbI182.length ≤ 40 * (j + 1) from by rw [show tbI182.length = 32 from rfl]; omega)
theorem tb_p183_0 : tb_ckP prog_9_method_7_code tbI183 0 = true := by decide +kernel
theorem tb_ckI_183 : tb_ckI prog_9_method_7_code tbI183
  | 0 => tb_p183_0
  | j + 1 => tb_ckP_ge (show tbI183.length ≤ 40 * (j + 1) from by rw [show tbI183.length = 25 from rfl]; omega)
theorem tb_p184_0 : tb_ckP prog_9_method_21_code tbI184 0 = true := by decide +kernel
theorem tb_ckI_184 : tb_ckI prog_9_method_21_code tbI184
  | 0 => tb_p184_0
  | j + 1 => tb_ckP_ge (show tbI184.length ≤ 40 * (j + 1) from by rw [show tbI184.length = 25 from rfl]; omega)
theorem tb_p185_0 : tb_ckP prog_9_method_13_code tbI185 0 = true := by decide +kernel
theorem tb_p185_1 : tb_ckP prog_9_method_13_code tbI185 40 = true := by decide +kernel
theorem tb_ckI_185 : tb_ckI prog_9_method_13_code tbI185
  | 0 => tb_p185_0
  | 1 => tb_p185_1
  | j + 2 => tb_ckP_ge (show tbI185.length ≤ 40 * (j + 2) from by rw [show tbI185.length = 59 from rfl]; omega)
theorem tb_p186_0 : tb_ckP prog_9_method_14_code tbI186 0 = true := by decide +kernel
theorem tb_p186_1 : tb_ckP prog_9_method_14_code tbI186 40 = true := by decide +kernel
theorem tb_ckI_186 : tb_ckI prog_9_method_14_code tbI186
  | 0 => tb_p186_0
  | 1 => tb_p186_1
  | j + 2 => tb_ckP_ge (show tbI186.length ≤ 40 * (j + 2) from by rw [show tbI186.length = 51 from rfl]; omega)
theorem tb_p187_0 : tb_ckP prog_9_method_15_code tbI187 0 = true := by decide +kernel
theorem tb_p187_1 : tb_ckP prog_9_method_15_code tbI187 40 = true := by decide +kernel
theorem tb_p187_2 : tb_ckP prog_9_method_15_code tbI187 80 = true := by decide +kernel
theorem tb_p187_3 : tb_ckP prog_9_method_15_code tbI187 120 = true := by decide +kernel
theorem tb_ckI_187 : tb_ckI prog_9_method_15_code tbI187
  | 0 => tb_p187_0
  | 1 => tb_p187_1
  | 2 => tb_p187_2
  | 3 => tb_p187_3
  | j + 4 => tb_ckP_ge (show tbI187.length ≤ 40 * (j + 4) from by rw [show tbI187.length = 126 from rfl]; omega)
theorem tb_p188_0 : tb_ckP prog_9_method_18_code tbI188 0 = true := by decide +kernel
theorem tb_ckI_188 : tb_ckI prog_9_method_18_code tbI188
  | 0 => tb_p188_0
  | j + 1 => tb_ckP_ge (show tbI188.length ≤ 40 * (j + 1) from by rw [show tbI188.length = 32 from rfl]; omega)
theorem tb_p189_0 : tb_ckP prog_9_method_16_code tbI189 0 = true := by decide +kernel
theorem tb_ckI_189 : tb_ckI prog_9_method_16_code tbI189
  | 0 => tb_p189_0
  | j + 1 => tb_ckP_ge (show tbI189.length ≤ 40 * (j + 1) from by rw [show tbI189.length = 38 from rfl]; omega)
theorem tb_p190_0 : tb_ckP prog_9_method_17_code tbI190 0 = true := by decide +kernel
theorem tb_p190_1 : tb_ckP prog_9_method_17_code tbI190 40 = true := by decide +kernel
theorem tb_ckI_190 : tb_ckI prog_9_method_17_code tbI190
  | 0 => tb_p190_0
  | 1 => tb_p190_1
  | j + 2 => tb_ckP_ge (show tbI190.length ≤ 40 * (j + 2) from by rw [show tbI190.length = 53 from rfl]; omega)
theorem tb_p191_0 : tb_ckP prog_9_method_5_code tbI191 0 = true := by decide +kernel
theorem tb_ckI_191 : tb_ckI prog_9_method_5_code tbI191
  | 0 => tb_p191_0
  | j + 1 => tb_ckP_ge (show tbI191.length ≤ 40 * (j + 1) from by rw [show tbI191.length = 35 from rfl]; omega)
theorem tb_p192_0 : tb_ckP prog_9_method_6_code tbI192 0 = true := by decide +kernel
theorem tb_p192_1 : tb_ckP prog_9_method_6_code tbI192 40 = true := by decide +kernel
theorem tb_ckI_192 : tb_ckI prog_9_method_6_code tbI192
  | 0 => tb_p192_0
  | 1 => tb_p192_1
  | j + 2 => tb_ckP_ge (show tbI192.length ≤ 40 * (j + 2) from by rw [show tbI192.length = 46 from rfl]; omega)
theorem tb_p193_0 : tb_ckP prog_1_method_22_code tbI193 0 = true := by decide +kernel
theorem tb_ckI_193 : tb_ckI prog_1_method_22_code tbI193
  | 0 => tb_p193_0
  | j + 1 => tb_ckP_ge (show tbI193.length ≤ 40 * (j + 1) from by rw [show tbI193.length = 29 from rfl]; omega)
theorem tb_p194_0 : tb_ckP prog_1_method_23_code tbI194 0 = true := by decide +kernel
theorem tb_ckI_194 : tb_ckI prog_1_method_23_code tbI194
  | 0 => tb_p194_0
  | j + 1 => tb_ckP_ge (show tbI194.length ≤ 40 * (j + 1) from by rw [show tbI194.length = 24 from rfl]; omega)
theorem tb_p195_0 : tb_ckP prog_1_method_24_code tbI195 0 = true := by decide +kernel
theorem tb_ckI_195 : tb_ckI prog_1_method_24_code tbI195
  | 0 => tb_p195_0
  | j + 1 => tb_ckP_ge (show tbI195.length ≤ 40 * (j + 1) from by rw [show tbI195.length = 30 from rfl]; omega)
theorem tb_p196_0 : tb_ckP prog_1_method_25_code tbI196 0 = true := by decide +kernel
theorem tb_ckI_196 : tb_ckI prog_1_method_25_code tbI196
  | 0 => tb_p196_0
  | j + 1 => tb_ckP_ge (show tbI196.length ≤ 40 * (j + 1) from by rw [show tbI196.length = 30 from rfl]; omega)
theorem tb_p197_0 : tb_ckP prog_1_method_26_code tbI197 0 = true := by decide +kernel
theorem tb_p197_1 : tb_ckP prog_1_method_26_code tbI197 40 = true := by decide +kernel
theorem tb_p197_2 : tb_ckP prog_1_method_26_code tbI197 80 = true := by decide +kernel
theorem tb_ckI_197 : tb_ckI prog_1_method_26_code tbI197
  | 0 => tb_p197_0
  | 1 => tb_p197_1
  | 2 => tb_p197_2
  | j + 3 => tb_ckP_ge (show tbI197.length ≤ 40 * (j + 3) from by rw [show tbI197.length = 83 from rfl]; omega)
theorem tb_p198_0 : tb_ckP prog_14_method_1_code tbI198 0 = true := by decide +kernel
theorem tb_p198_1 : tb_ckP prog_14_method_1_code tbI198 40 = true := by decide +kernel
theorem tb_p198_2 : tb_ckP prog_14_method_1_code tbI198 80 = true := by decide +kernel
theorem tb_p198_3 : tb_ckP prog_14_method_1_code tbI198 120 = true := by decide +kernel
theorem tb_p198_4 : tb_ckP prog_14_method_1_code tbI198 160 = true := by decide +kernel
theorem tb_p198_5 : tb_ckP prog_14_method_1_code tbI198 200 = true := by decide +kernel
theorem tb_p198_6 : tb_ckP prog_14_method_1_code tbI198 240 = true := by decide +kernel
theorem tb_p198_7 : tb_ckP prog_14_method_1_code tbI198 280 = true := by decide +kernel
theorem tb_p198_8 : tb_ckP prog_14_method_1_code tbI198 320 = true := by decide +kernel
theorem tb_p198_9 : tb_ckP prog_14_method_1_code tbI198 360 = true := by decide +kernel
theorem tb_p198_10 : tb_ckP prog_14_method_1_code tbI198 400 = true := by decide +kernel
theorem tb_p198_11 : tb_ckP prog_14_method_1_code tbI198 440 = true := by decide +kernel
theorem tb_p198_12 : tb_ckP prog_14_method_1_code tbI198 480 = true := by decide +kernel
theorem tb_p198_13 : tb_ckP prog_14_method_1_code tbI198 520 = true := by decide +kernel
theorem tb_p198_14 : tb_ckP prog_14_method_1_code tbI198 560 = true := by decide +kernel
theorem tb_p198_15 : tb_ckP prog_14_method_1_code tbI198 600 = true := by decide +kernel
theorem tb_p198_16 : tb_ckP prog_14_method_1_code tbI198 640 = true := by decide +kernel
theorem tb_p198_17 : tb_ckP prog_14_method_1_code tbI198 680 = true := by decide +kernel
theorem tb_p198_18 : tb_ckP prog_14_method_1_code tbI198 720 = true := by decide +kernel
theorem tb_p198_19 : tb_ckP prog_14_method_1_code tbI198 760 = true := by decide +kernel
theorem tb_p198_20 : tb_ckP prog_14_method_1_code tbI198 800 = true := by decide +kernel
theorem tb_p198_21 : tb_ckP prog_14_method_1_code tbI198 840 = true := by decide +kernel
theorem tb_ckI_198 : tb_ckI prog_14_method_1_code tbI198
  | 0 => tb_p198_0
  | 1 => tb_p198_1
  | 2 => tb_p198_2
  | 3 => tb_p198_3
  | 4 => tb_p198_4
  | 5 => tb_p198_5
  | 6 => tb_p198_6
  | 7 => tb_p198_7
  | 8 => tb_p198_8
  | 9 => tb_p198_9
  | 10 => tb_p198_10
  | 11 => tb_p198_11
  | 12 => tb_p198_12
  | 13 => tb_p198_13
  | 14 => tb_p198_14
  | 15 => tb_p198_15
  | 16 => tb_p198_16
  | 17 => tb_p198_17
  | 18 => tb_p198_18
  | 19 => tb_p198_19
  | 20 => tb_p198_20
  | 21 => tb_p198_21
  | j + 22 => tb_ckP_ge (show tbI198.length ≤ 40 * (j + 22) from by rw [show tbI198.length = 849 from rfl]; omega)
theorem tb_p199_0 : tb_ckP prog_14_method_3_code tbI199 0 = true := by decide +kernel
theorem tb_p199_1 : tb_ckP prog_14_method_3_code tbI199 40 = true := by decide +kernel
theorem tb_p199_2 : tb_ckP prog_14_method_3_code tbI199 80 = true := by decide +kernel
theorem tb_ckI_199 : tb_ckI prog_14_method_3_code tbI199
  | 0 => tb_p199_0
  | 1 => tb_p199_1
  | 2 => tb_p199_2
  | j + 3 => tb_ckP_ge (show tbI199.length ≤ 40 * (j + 3) from by rw [show tbI199.length = 81 from rfl]; omega)
theorem tb_p200_0 : tb_ckP prog_14_method_2_code tbI200 0 = true := by decide +kernel
theorem tb_ckI_200 : tb_ckI prog_14_method_2_code tbI200
  | 0 => tb_p200_0
  | j + 1 => tb_ckP_ge (show tbI200.length ≤ 40 * (j + 1) from by rw [show tbI200.length = 19 from rfl]; omega)
theorem tb_p201_0 : tb_ckP prog_14_method_46_code tbI201 0 = true := by decide +kernel
theorem tb_p201_1 : tb_ckP prog_14_method_46_code tbI201 40 = true := by decide +kernel
theorem tb_p201_2 : tb_ckP prog_14_method_46_code tbI201 80 = true := by decide +kernel
theorem tb_p201_3 : tb_ckP prog_14_method_46_code tbI201 120 = true := by decide +kernel
theorem tb_p201_4 : tb_ckP prog_14_method_46_code tbI201 160 = true := by decide +kernel
theorem tb_p201_5 : tb_ckP prog_14_method_46_code tbI201 200 = true := by decide +kernel
theorem tb_ckI_201 : tb_ckI prog_14_method_46_code tbI201
  | 0 => tb_p201_0
  | 1 => tb_p201_1
  | 2 => tb_p201_2
  | 3 => tb_p201_3
  | 4 => tb_p201_4
  | 5 => tb_p201_5
  | j + 6 => tb_ckP_ge (show tbI201.length ≤ 40 * (j + 6) from by rw [show tbI201.length = 230 from rfl]; omega)
theorem tb_p202_0 : tb_ckP prog_14_method_45_code tbI202 0 = true := by decide +kernel
theorem tb_ckI_202 : tb_ckI prog_14_method_45_code tbI202
  | 0 => tb_p202_0
  | j + 1 => tb_ckP_ge (show tbI202.length ≤ 40 * (j + 1) from by rw [show tbI202.length = 15 from rfl]; omega)
theorem tb_p203_0 : tb_ckP prog_14_method_8_code tbI203 0 = true := by decide +kernel
theorem tb_p203_1 : tb_ckP prog_14_method_8_code tbI203 40 = true := by decide +kernel
theorem tb_p203_2 : tb_ckP prog_14_method_8_code tbI203 80 = true := by decide +kernel
theorem tb_p203_3 : tb_ckP prog_14_method_8_code tbI203 120 = true := by decide +kernel
theorem tb_p203_4 : tb_ckP prog_14_method_8_code tbI203 160 = true := by decide +kernel
theorem tb_p203_5 : tb_ckP prog_14_method_8_code tbI203 200 = true := by decide +kernel
theorem tb_p203_6 : tb_ckP prog_14_method_8_code tbI203 240 = true := by decide +kernel
theorem tb_p203_7 : tb_ckP prog_14_method_8_code tbI203 280 = true := by decide +kernel
theorem tb_p203_8 : tb_ckP prog_14_method_8_code tbI203 320 = true := by decide +kernel
theorem tb_p203_9 : tb_ckP prog_14_method_8_code tbI203 360 = true := by decide +kernel
theorem tb_p203_10 : tb_ckP prog_14_method_8_code tbI203 400 = true := by decide +kernel
theorem tb_p203_11 : tb_ckP prog_14_method_8_code tbI203 440 = true := by decide +kernel
theorem tb_p203_12 : tb_ckP prog_14_method_8_code tbI203 480 = true := by decide +kernel
theorem tb_p203_13 : tb_ckP prog_14_method_8_code tbI203 520 = true := by decide +kernel
theorem tb_ckI_203 : tb_ckI prog_14_method_8_code tbI203
  | 0 => tb_p203_0
  | 1 => tb_p203_1
  | 2 => tb_p203_2
  | 3 => tb_p203_3
  | 4 => tb_p203_4
  | 5 => tb_p203_5
  | 6 => tb_p203_6
  | 7 => tb_p203_7
  | 8 => tb_p203_8
  | 9 => tb_p203_9
  | 10 => tb_p203_10
  | 11 => tb_p203_11
  | 12 => tb_p203_12
  | 13 => tb_p203_13
  | j + 14 => tb_ckP_ge (show tbI203.length ≤ 40 * (j + 14) from by rw [show tbI203.length = 550 from rfl]; omega)
theorem tb_p204_0 : tb_ckP prog_14_method_6_code tbI204 0 = true := by decide +kernel
theorem tb_ckI_204 : tb_ckI prog_14_method_6_code tbI204
  | 0 => tb_p204_0
  | j + 1 => tb_ckP_ge (show tbI204.length ≤ 40 * (j + 1) from by rw [show tbI204.length = 19 from rfl]; omega)
theorem tb_p205_0 : tb_ckP prog_14_method_4_code tbI205 0 = true := by decide +kernel
theorem tb_ckI_205 : tb_ckI prog_14_method_4_code tbI205
  | 0 => tb_p205_0
  | j + 1 => tb_ckP_ge (show tbI205.length ≤ 40 * (j + 1) from by rw [show tbI205.length = 12 from rfl]; omega)
theorem tb_p206_0 : tb_ckP prog_14_method_9_code tbI206 0 = true := by decide +kernel
theorem tb_p206_1 : tb_ckP prog_14_method_9_code tbI206 40 = true := by decide +kernel
theorem tb_p206_2 : tb_ckP prog_14_method_9_code tbI206 80 = true := by decide +kernel
theorem tb_p206_3 : tb_ckP prog_14_method_9_code tbI206 120 = true := by decide +kernel
theorem tb_p206_4 : tb_ckP prog_14_method_9_code tbI206 160 = true := by decide +kernel
theorem tb_ckI_206 : tb_ckI prog_14_method_9_code tbI206
  | 0 => tb_p206_0
  | 1 => tb_p206_1
  | 2 => tb_p206_2
  | 3 => tb_p206_3
  | 4 => tb_p206_4
  | j + 5 => tb_ckP_ge (show tbI206.length ≤ 40 * (j + 5) from by rw [show tbI206.length = 167 from rfl]; omega)
