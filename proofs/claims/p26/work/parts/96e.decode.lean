theorem tb_p177_0 : tb_ckP prog_9_method_19_code tbI177 0 = true := by decide +kernel
theorem tb_p177_1 : tb_ckP prog_9_method_19_code tbI177 40 = true := by decide +kernel
theorem tb_p177_2 : tb_ckP prog_9_method_19_code tbI177 80 = true := by decide +kernel
theorem tb_p177_3 : tb_ckP prog_9_method_19_code tbI177 120 = true := by decide +kernel
theorem tb_p177_4 : tb_ckP prog_9_method_19_code tbI177 160 = true := by decide +kernel
theorem tb_ln177 : tbI177.length = 169 := by decide +kernel
theorem tb_ckI_177 : tb_ckI prog_9_method_19_code tbI177
  | 0 => tb_p177_0
  | 1 => tb_p177_1
  | 2 => tb_p177_2
  | 3 => tb_p177_3
  | 4 => tb_p177_4
  | j + 5 => tb_ckP_ge (show tbI177.length ≤ 40 * (j + 5) from by rw [tb_ln177]; omega)
theorem tb_p178_0 : tb_ckP prog_9_method_20_code tbI178 0 = true := by decide +kernel
theorem tb_p178_1 : tb_ckP prog_9_method_20_code tbI178 40 = true := by decide +kernel
theorem tb_p178_2 : tb_ckP prog_9_method_20_code tbI178 80 = true := by decide +kernel
theorem tb_p178_3 : tb_ckP prog_9_method_20_code tbI178 120 = true := by decide +kernel
theorem tb_ln178 : tbI178.length = 141 := by decide +kernel
theorem tb_ckI_178 : tb_ckI prog_9_method_20_code tbI178
  | 0 => tb_p178_0
  | 1 => tb_p178_1
  | 2 => tb_p178_2
  | 3 => tb_p178_3
  | j + 4 => tb_ckP_ge (show tbI178.length ≤ 40 * (j + 4) from by rw [tb_ln178]; omega)
theorem tb_p179_0 : tb_ckP prog_9_method_22_code tbI179 0 = true := by decide +kernel
theorem tb_ln179 : tbI179.length = 29 := by decide +kernel
theorem tb_ckI_179 : tb_ckI prog_9_method_22_code tbI179
  | 0 => tb_p179_0
  | j + 1 => tb_ckP_ge (show tbI179.length ≤ 40 * (j + 1) from by rw [tb_ln179]; omega)
theorem tb_p180_0 : tb_ckP prog_9_method_8_code tbI180 0 = true := by decide +kernel
theorem tb_ln180 : tbI180.length = 32 := by decide +kernel
theorem tb_ckI_180 : tb_ckI prog_9_method_8_code tbI180
  | 0 => tb_p180_0
  | j + 1 => tb_ckP_ge (show tbI180.length ≤ 40 * (j + 1) from by rw [tb_ln180]; omega)
theorem tb_p181_0 : tb_ckP prog_9_method_7_code tbI181 0 = true := by decide +kernel
theorem tb_ln181 : tbI181.length = 25 := by decide +kernel
theorem tb_ckI_181 : tb_ckI prog_9_method_7_code tbI181
  | 0 => tb_p181_0
  | j + 1 => tb_ckP_ge (show tbI181.length ≤ 40 * (j + 1) from by rw [tb_ln181]; omega)
theorem tb_p182_0 : tb_ckP prog_9_method_21_code tbI182 0 = true := by decide +kernel
theorem tb_ln182 : tbI182.length = 25 := by decide +kernel
theorem tb_ckI_182 : tb_ckI prog_9_method_21_code tbI182
  | 0 => tb_p182_0
  | j + 1 => tb_ckP_ge (show tbI182.length ≤ 40 * (j + 1) from by rw [tb_ln182]; omega)
theorem tb_p183_0 : tb_ckP prog_9_method_13_code tbI183 0 = true := by decide +kernel
theorem tb_p183_1 : tb_ckP prog_9_method_13_code tbI183 40 = true := by decide +kernel
theorem tb_ln183 : tbI183.length = 59 := by decide +kernel
theorem tb_ckI_183 : tb_ckI prog_9_method_13_code tbI183
  | 0 => tb_p183_0
  | 1 => tb_p183_1
  | j + 2 => tb_ckP_ge (show tbI183.length ≤ 40 * (j + 2) from by rw [tb_ln183]; omega)
theorem tb_p184_0 : tb_ckP prog_9_method_14_code tbI184 0 = true := by decide +kernel
theorem tb_p184_1 : tb_ckP prog_9_method_14_code tbI184 40 = true := by decide +kernel
theorem tb_ln184 : tbI184.length = 51 := by decide +kernel
theorem tb_ckI_184 : tb_ckI prog_9_method_14_code tbI184
  | 0 => tb_p184_0
  | 1 => tb_p184_1
  | j + 2 => tb_ckP_ge (show tbI184.length ≤ 40 * (j + 2) from by rw [tb_ln184]; omega)
theorem tb_p185_0 : tb_ckP prog_9_method_15_code tbI185 0 = true := by decide +kernel
theorem tb_p185_1 : tb_ckP prog_9_method_15_code tbI185 40 = true := by decide +kernel
theorem tb_p185_2 : tb_ckP prog_9_method_15_code tbI185 80 = true := by decide +kernel
theorem tb_p185_3 : tb_ckP prog_9_method_15_code tbI185 120 = true := by decide +kernel
theorem tb_ln185 : tbI185.length = 126 := by decide +kernel
theorem tb_ckI_185 : tb_ckI prog_9_method_15_code tbI185
  | 0 => tb_p185_0
  | 1 => tb_p185_1
  | 2 => tb_p185_2
  | 3 => tb_p185_3
  | j + 4 => tb_ckP_ge (show tbI185.length ≤ 40 * (j + 4) from by rw [tb_ln185]; omega)
theorem tb_p186_0 : tb_ckP prog_9_method_18_code tbI186 0 = true := by decide +kernel
theorem tb_ln186 : tbI186.length = 32 := by decide +kernel
theorem tb_ckI_186 : tb_ckI prog_9_method_18_code tbI186
  | 0 => tb_p186_0
  | j + 1 => tb_ckP_ge (show tbI186.length ≤ 40 * (j + 1) from by rw [tb_ln186]; omega)
theorem tb_p187_0 : tb_ckP prog_9_method_16_code tbI187 0 = true := by decide +kernel
theorem tb_ln187 : tbI187.length = 38 := by decide +kernel
theorem tb_ckI_187 : tb_ckI prog_9_method_16_code tbI187
  | 0 => tb_p187_0
  | j + 1 => tb_ckP_ge (show tbI187.length ≤ 40 * (j + 1) from by rw [tb_ln187]; omega)
theorem tb_p188_0 : tb_ckP prog_9_method_17_code tbI188 0 = true := by decide +kernel
theorem tb_p188_1 : tb_ckP prog_9_method_17_code tbI188 40 = true := by decide +kernel
theorem tb_ln188 : tbI188.length = 53 := by decide +kernel
theorem tb_ckI_188 : tb_ckI prog_9_method_17_code tbI188
  | 0 => tb_p188_0
  | 1 => tb_p188_1
  | j + 2 => tb_ckP_ge (show tbI188.length ≤ 40 * (j + 2) from by rw [tb_ln188]; omega)
theorem tb_p189_0 : tb_ckP prog_9_method_5_code tbI189 0 = true := by decide +kernel
theorem tb_ln189 : tbI189.length = 35 := by decide +kernel
theorem tb_ckI_189 : tb_ckI prog_9_method_5_code tbI189
  | 0 => tb_p189_0
  | j + 1 => tb_ckP_ge (show tbI189.length ≤ 40 * (j + 1) from by rw [tb_ln189]; omega)
theorem tb_p190_0 : tb_ckP prog_9_method_6_code tbI190 0 = true := by decide +kernel
theorem tb_p190_1 : tb_ckP prog_9_method_6_code tbI190 40 = true := by decide +kernel
theorem tb_ln190 : tbI190.length = 46 := by decide +kernel
theorem tb_ckI_190 : tb_ckI prog_9_method_6_code tbI190
  | 0 => tb_p190_0
  | 1 => tb_p190_1
  | j + 2 => tb_ckP_ge (show tbI190.length ≤ 40 * (j + 2) from by rw [tb_ln190]; omega)
theorem tb_p191_0 : tb_ckP prog_1_method_22_code tbI191 0 = true := by decide +kernel
theorem tb_ln191 : tbI191.length = 29 := by decide +kernel
theorem tb_ckI_191 : tb_ckI prog_1_method_22_code tbI191
  | 0 => tb_p191_0
  | j + 1 => tb_ckP_ge (show tbI191.length ≤ 40 * (j + 1) from by rw [tb_ln191]; omega)
theorem tb_p192_0 : tb_ckP prog_1_method_23_code tbI192 0 = true := by decide +kernel
theorem tb_ln192 : tbI192.length = 24 := by decide +kernel
theorem tb_ckI_192 : tb_ckI prog_1_method_23_code tbI192
  | 0 => tb_p192_0
  | j + 1 => tb_ckP_ge (show tbI192.length ≤ 40 * (j + 1) from by rw [tb_ln192]; omega)
theorem tb_p193_0 : tb_ckP prog_1_method_24_code tbI193 0 = true := by decide +kernel
theorem tb_ln193 : tbI193.length = 30 := by decide +kernel
theorem tb_ckI_193 : tb_ckI prog_1_method_24_code tbI193
  | 0 => tb_p193_0
  | j + 1 => tb_ckP_ge (show tbI193.length ≤ 40 * (j + 1) from by rw [tb_ln193]; omega)
theorem tb_p194_0 : tb_ckP prog_1_method_25_code tbI194 0 = true := by decide +kernel
theorem tb_ln194 : tbI194.length = 30 := by decide +kernel
theorem tb_ckI_194 : tb_ckI prog_1_method_25_code tbI194
  | 0 => tb_p194_0
  | j + 1 => tb_ckP_ge (show tbI194.length ≤ 40 * (j + 1) from by rw [tb_ln194]; omega)
theorem tb_p195_0 : tb_ckP prog_1_method_26_code tbI195 0 = true := by decide +kernel
theorem tb_p195_1 : tb_ckP prog_1_method_26_code tbI195 40 = true := by decide +kernel
theorem tb_p195_2 : tb_ckP prog_1_method_26_code tbI195 80 = true := by decide +kernel
theorem tb_ln195 : tbI195.length = 83 := by decide +kernel
theorem tb_ckI_195 : tb_ckI prog_1_method_26_code tbI195
  | 0 => tb_p195_0
  | 1 => tb_p195_1
  | 2 => tb_p195_2
  | j + 3 => tb_ckP_ge (show tbI195.length ≤ 40 * (j + 3) from by rw [tb_ln195]; omega)
theorem tb_p196_0 : tb_ckP prog_14_method_1_code tbI196 0 = true := by decide +kernel
theorem tb_p196_1 : tb_ckP prog_14_method_1_code tbI196 40 = true := by decide +kernel
theorem tb_p196_2 : tb_ckP prog_14_method_1_code tbI196 80 = true := by decide +kernel
theorem tb_p196_3 : tb_ckP prog_14_method_1_code tbI196 120 = true := by decide +kernel
theorem tb_p196_4 : tb_ckP prog_14_method_1_code tbI196 160 = true := by decide +kernel
theorem tb_p196_5 : tb_ckP prog_14_method_1_code tbI196 200 = true := by decide +kernel
theorem tb_p196_6 : tb_ckP prog_14_method_1_code tbI196 240 = true := by decide +kernel
theorem tb_p196_7 : tb_ckP prog_14_method_1_code tbI196 280 = true := by decide +kernel
theorem tb_p196_8 : tb_ckP prog_14_method_1_code tbI196 320 = true := by decide +kernel
theorem tb_p196_9 : tb_ckP prog_14_method_1_code tbI196 360 = true := by decide +kernel
theorem tb_p196_10 : tb_ckP prog_14_method_1_code tbI196 400 = true := by decide +kernel
theorem tb_p196_11 : tb_ckP prog_14_method_1_code tbI196 440 = true := by decide +kernel
theorem tb_p196_12 : tb_ckP prog_14_method_1_code tbI196 480 = true := by decide +kernel
theorem tb_p196_13 : tb_ckP prog_14_method_1_code tbI196 520 = true := by decide +kernel
theorem tb_p196_14 : tb_ckP prog_14_method_1_code tbI196 560 = true := by decide +kernel
theorem tb_p196_15 : tb_ckP prog_14_method_1_code tbI196 600 = true := by decide +kernel
theorem tb_p196_16 : tb_ckP prog_14_method_1_code tbI196 640 = true := by decide +kernel
theorem tb_p196_17 : tb_ckP prog_14_method_1_code tbI196 680 = true := by decide +kernel
theorem tb_p196_18 : tb_ckP prog_14_method_1_code tbI196 720 = true := by decide +kernel
theorem tb_p196_19 : tb_ckP prog_14_method_1_code tbI196 760 = true := by decide +kernel
theorem tb_p196_20 : tb_ckP prog_14_method_1_code tbI196 800 = true := by decide +kernel
theorem tb_p196_21 : tb_ckP prog_14_method_1_code tbI196 840 = true := by decide +kernel
theorem tb_ln196 : tbI196.length = 849 := by decide +kernel
theorem tb_ckI_196 : tb_ckI prog_14_method_1_code tbI196
  | 0 => tb_p196_0
  | 1 => tb_p196_1
  | 2 => tb_p196_2
  | 3 => tb_p196_3
  | 4 => tb_p196_4
  | 5 => tb_p196_5
  | 6 => tb_p196_6
  | 7 => tb_p196_7
  | 8 => tb_p196_8
  | 9 => tb_p196_9
  | 10 => tb_p196_10
  | 11 => tb_p196_11
  | 12 => tb_p196_12
  | 13 => tb_p196_13
  | 14 => tb_p196_14
  | 15 => tb_p196_15
  | 16 => tb_p196_16
  | 17 => tb_p196_17
  | 18 => tb_p196_18
  | 19 => tb_p196_19
  | 20 => tb_p196_20
  | 21 => tb_p196_21
  | j + 22 => tb_ckP_ge (show tbI196.length ≤ 40 * (j + 22) from by rw [tb_ln196]; omega)
theorem tb_p197_0 : tb_ckP prog_14_method_3_code tbI197 0 = true := by decide +kernel
theorem tb_p197_1 : tb_ckP prog_14_method_3_code tbI197 40 = true := by decide +kernel
theorem tb_p197_2 : tb_ckP prog_14_method_3_code tbI197 80 = true := by decide +kernel
theorem tb_ln197 : tbI197.length = 81 := by decide +kernel
theorem tb_ckI_197 : tb_ckI prog_14_method_3_code tbI197
  | 0 => tb_p197_0
  | 1 => tb_p197_1
  | 2 => tb_p197_2
  | j + 3 => tb_ckP_ge (show tbI197.length ≤ 40 * (j + 3) from by rw [tb_ln197]; omega)
theorem tb_p198_0 : tb_ckP prog_14_method_2_code tbI198 0 = true := by decide +kernel
theorem tb_ln198 : tbI198.length = 19 := by decide +kernel
theorem tb_ckI_198 : tb_ckI prog_14_method_2_code tbI198
  | 0 => tb_p198_0
  | j + 1 => tb_ckP_ge (show tbI198.length ≤ 40 * (j + 1) from by rw [tb_ln198]; omega)
theorem tb_p199_0 : tb_ckP prog_14_method_46_code tbI199 0 = true := by decide +kernel
theorem tb_p199_1 : tb_ckP prog_14_method_46_code tbI199 40 = true := by decide +kernel
theorem tb_p199_2 : tb_ckP prog_14_method_46_code tbI199 80 = true := by decide +kernel
theorem tb_p199_3 : tb_ckP prog_14_method_46_code tbI199 120 = true := by decide +kernel
theorem tb_p199_4 : tb_ckP prog_14_method_46_code tbI199 160 = true := by decide +kernel
theorem tb_p199_5 : tb_ckP prog_14_method_46_code tbI199 200 = true := by decide +kernel
theorem tb_ln199 : tbI199.length = 230 := by decide +kernel
theorem tb_ckI_199 : tb_ckI prog_14_method_46_code tbI199
  | 0 => tb_p199_0
  | 1 => tb_p199_1
  | 2 => tb_p199_2
  | 3 => tb_p199_3
  | 4 => tb_p199_4
  | 5 => tb_p199_5
  | j + 6 => tb_ckP_ge (show tbI199.length ≤ 40 * (j + 6) from by rw [tb_ln199]; omega)
theorem tb_p200_0 : tb_ckP prog_14_method_45_code tbI200 0 = true := by decide +kernel
theorem tb_ln200 : tbI200.length = 15 := by decide +kernel
theorem tb_ckI_200 : tb_ckI prog_14_method_45_code tbI200
  | 0 => tb_p200_0
  | j + 1 => tb_ckP_ge (show tbI200.length ≤ 40 * (j + 1) from by rw [tb_ln200]; omega)
theorem tb_p201_0 : tb_ckP prog_14_method_8_code tbI201 0 = true := by decide +kernel
theorem tb_p201_1 : tb_ckP prog_14_method_8_code tbI201 40 = true := by decide +kernel
theorem tb_p201_2 : tb_ckP prog_14_method_8_code tbI201 80 = true := by decide +kernel
theorem tb_p201_3 : tb_ckP prog_14_method_8_code tbI201 120 = true := by decide +kernel
theorem tb_p201_4 : tb_ckP prog_14_method_8_code tbI201 160 = true := by decide +kernel
theorem tb_p201_5 : tb_ckP prog_14_method_8_code tbI201 200 = true := by decide +kernel
theorem tb_p201_6 : tb_ckP prog_14_method_8_code tbI201 240 = true := by decide +kernel
theorem tb_p201_7 : tb_ckP prog_14_method_8_code tbI201 280 = true := by decide +kernel
theorem tb_p201_8 : tb_ckP prog_14_method_8_code tbI201 320 = true := by decide +kernel
theorem tb_p201_9 : tb_ckP prog_14_method_8_code tbI201 360 = true := by decide +kernel
theorem tb_p201_10 : tb_ckP prog_14_method_8_code tbI201 400 = true := by decide +kernel
theorem tb_p201_11 : tb_ckP prog_14_method_8_code tbI201 440 = true := by decide +kernel
theorem tb_p201_12 : tb_ckP prog_14_method_8_code tbI201 480 = true := by decide +kernel
theorem tb_p201_13 : tb_ckP prog_14_method_8_code tbI201 520 = true := by decide +kernel
theorem tb_ln201 : tbI201.length = 550 := by decide +kernel
theorem tb_ckI_201 : tb_ckI prog_14_method_8_code tbI201
  | 0 => tb_p201_0
  | 1 => tb_p201_1
  | 2 => tb_p201_2
  | 3 => tb_p201_3
  | 4 => tb_p201_4
  | 5 => tb_p201_5
  | 6 => tb_p201_6
  | 7 => tb_p201_7
  | 8 => tb_p201_8
  | 9 => tb_p201_9
  | 10 => tb_p201_10
  | 11 => tb_p201_11
  | 12 => tb_p201_12
  | 13 => tb_p201_13
  | j + 14 => tb_ckP_ge (show tbI201.length ≤ 40 * (j + 14) from by rw [tb_ln201]; omega)
theorem tb_p202_0 : tb_ckP prog_14_method_6_code tbI202 0 = true := by decide +kernel
theorem tb_ln202 : tbI202.length = 19 := by decide +kernel
theorem tb_ckI_202 : tb_ckI prog_14_method_6_code tbI202
  | 0 => tb_p202_0
  | j + 1 => tb_ckP_ge (show tbI202.length ≤ 40 * (j + 1) from by rw [tb_ln202]; omega)
theorem tb_p203_0 : tb_ckP prog_14_method_4_code tbI203 0 = true := by decide +kernel
theorem tb_ln203 : tbI203.length = 12 := by decide +kernel
theorem tb_ckI_203 : tb_ckI prog_14_method_4_code tbI203
  | 0 => tb_p203_0
  | j + 1 => tb_ckP_ge (show tbI203.length ≤ 40 * (j + 1) from by rw [tb_ln203]; omega)
theorem tb_p204_0 : tb_ckP prog_14_method_9_code tbI204 0 = true := by decide +kernel
theorem tb_p204_1 : tb_ckP prog_14_method_9_code tbI204 40 = true := by decide +kernel
theorem tb_p204_2 : tb_ckP prog_14_method_9_code tbI204 80 = true := by decide +kernel
theorem tb_p204_3 : tb_ckP prog_14_method_9_code tbI204 120 = true := by decide +kernel
theorem tb_p204_4 : tb_ckP prog_14_method_9_code tbI204 160 = true := by decide +kernel
theorem tb_ln204 : tbI204.length = 167 := by decide +kernel
theorem tb_ckI_204 : tb_ckI prog_14_method_9_code tbI204
  | 0 => tb_p204_0
  | 1 => tb_p204_1
  | 2 => tb_p204_2
  | 3 => tb_p204_3
  | 4 => tb_p204_4
  | j + 5 => tb_ckP_ge (show tbI204.length ≤ 40 * (j + 5) from by rw [tb_ln204]; omega)
