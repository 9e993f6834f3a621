theorem tb_p207_0 : tb_ckP prog_14_method_5_code tbI207 0 = true := by decide +kernel
theorem tb_ckI_207 : tb_ckI prog_14_method_5_code tbI207
  | 0 => tb_p207_0
  | j + 1 => tb_ckP_ge (show tbI207.length ≤ 40 * (j + 1) from by rw [show tbI207.length = 12 from rfl]; omega)
theorem tb_p208_0 : tb_ckP prog_14_method_7_code tbI208 0 = true := by decide +kernel
theorem tb_p208_1 : tb_ckP prog_14_method_7_code tbI208 40 = true := by decide +kernel
theorem tb_p208_2 : tb_ckP prog_14_method_7_code tbI208 80 = true := by decide +kernel
theorem tb_p208_3 : tb_ckP prog_14_method_7_code tbI208 120 = true := by decide +kernel
theorem tb_ckI_208 : tb_ckI prog_14_method_7_code tbI208
  | 0 => tb_p208_0
  | 1 => tb_p208_1
  | 2 => tb_p208_2
  | 3 => tb_p208_3
  | j + 4 => tb_ckP_ge (show tbI208.length ≤ 40 * (j + 4) from by rw [show tbI208.length = 139 from rfl]; omega)
theorem tb_p209_0 : tb_ckP prog_14_method_13_code tbI209 0 = true := by decide +kernel
theorem tb_ckI_209 : tb_ckI prog_14_method_13_code tbI209
  | 0 => tb_p209_0
  | j + 1 => tb_ckP_ge (show tbI209.length ≤ 40 * (j + 1) from by rw [show tbI209.length = 25 from rfl]; omega)
theorem tb_p210_0 : tb_ckP prog_14_method_20_code tbI210 0 = true := by decide +kernel
theorem tb_p210_1 : tb_ckP prog_14_method_20_code tbI210 40 = true := by decide +kernel
theorem tb_p210_2 : tb_ckP prog_14_method_20_code tbI210 80 = true := by decide +kernel
theorem tb_p210_3 : tb_ckP prog_14_method_20_code tbI210 120 = true := by decide +kernel
theorem tb_p210_4 : tb_ckP prog_14_method_20_code tbI210 160 = true := by decide +kernel
theorem tb_p210_5 : tb_ckP prog_14_method_20_code tbI210 200 = true := by decide +kernel
theorem tb_p210_6 : tb_ckP prog_14_method_20_code tbI210 240 = true := by decide +kernel
theorem tb_ckI_210 : tb_ckI prog_14_method_20_code tbI210
  | 0 => tb_p210_0
  | 1 => tb_p210_1
  | 2 => tb_p210_2
  | 3 => tb_p210_3
  | 4 => tb_p210_4
  | 5 => tb_p210_5
  | 6 => tb_p210_6
  | j + 7 => tb_ckP_ge (show tbI210.length ≤ 40 * (j + 7) from by rw [show tbI210.length = 242 from rfl]; omega)
theorem tb_p211_0 : tb_ckP prog_14_method_11_code tbI211 0 = true := by decide +kernel
theorem tb_ckI_211 : tb_ckI prog_14_method_11_code tbI211
  | 0 => tb_p211_0
  | j + 1 => tb_ckP_ge (show tbI211.length ≤ 40 * (j + 1) from by rw [show tbI211.length = 23 from rfl]; omega)
theorem tb_p212_0 : tb_ckP prog_14_method_10_code tbI212 0 = true := by decide +kernel
theorem tb_ckI_212 : tb_ckI prog_14_method_10_code tbI212
  | 0 => tb_p212_0
  | j + 1 => tb_ckP_ge (show tbI212.length ≤ 40 * (j + 1) from by rw [show tbI212.length = 18 from rfl]; omega)
theorem tb_p213_0 : tb_ckP prog_14_method_16_code tbI213 0 = true := by decide +kernel
theorem tb_p213_1 : tb_ckP prog_14_method_16_code tbI213 40 = true := by decide +kernel
theorem tb_ckI_213 : tb_ckI prog_14_method_16_code tbI213
  | 0 => tb_p213_0
  | 1 => tb_p213_1
  | j + 2 => tb_ckP_ge (show tbI213.length ≤ 40 * (j + 2) from by rw [show tbI213.length = 42 from rfl]; omega)
theorem tb_p214_0 : tb_ckP prog_14_method_21_code tbI214 0 = true := by decide +kernel
theorem tb_p214_1 : tb_ckP prog_14_method_21_code tbI214 40 = true := by decide +kernel
theorem tb_p214_2 : tb_ckP prog_14_method_21_code tbI214 80 = true := by decide +kernel
theorem tb_ckI_214 : tb_ckI prog_14_method_21_code tbI214
  | 0 => tb_p214_0
  | 1 => tb_p214_1
  | 2 => tb_p214_2
  | j + 3 => tb_ckP_ge (show tbI214.length ≤ 40 * (j + 3) from by rw [show tbI214.length = 95 from rfl]; omega)
theorem tb_p215_0 : tb_ckP prog_14_method_17_code tbI215 0 = true := by decide +kernel
theorem tb_ckI_215 : tb_ckI prog_14_method_17_code tbI215
  | 0 => tb_p215_0
  | j + 1 => tb_ckP_ge (show tbI215.length ≤ 40 * (j + 1) from by rw [show tbI215.length = 40 from rfl]; omega)
theorem tb_p216_0 : tb_ckP prog_14_method_14_code tbI216 0 = true := by decide +kernel
theorem tb_ckI_216 : tb_ckI prog_14_method_14_code tbI216
  | 0 => tb_p216_0
  | j + 1 => tb_ckP_ge (show tbI216.length ≤ 40 * (j + 1) from by rw [show tbI216.length = 31 from rfl]; omega)
theorem tb_p217_0 : tb_ckP prog_14_method_12_code tbI217 0 = true := by decide +kernel
theorem tb_ckI_217 : tb_ckI prog_14_method_12_code tbI217
  | 0 => tb_p217_0
  | j + 1 => tb_ckP_ge (show tbI217.length ≤ 40 * (j + 1) from by rw [show tbI217.length = 24 from rfl]; omega)
theorem tb_p218_0 : tb_ckP prog_14_method_19_code tbI218 0 = true := by decide +kernel
theorem tb_p218_1 : tb_ckP prog_14_method_19_code tbI218 40 = true := by decide +kernel
theorem tb_p218_2 : tb_ckP prog_14_method_19_code tbI218 80 = true := by decide +kernel
theorem tb_ckI_218 : tb_ckI prog_14_method_19_code tbI218
  | 0 => tb_p218_0
  | 1 => tb_p218_1
  | 2 => tb_p218_2
  | j + 3 => tb_ckP_ge (show tbI218.length ≤ 40 * (j + 3) from by rw [show tbI218.length = 109 from rfl]; omega)
theorem tb_p219_0 : tb_ckP prog_14_method_15_code tbI219 0 = true := by decide +kernel
theorem tb_ckI_219 : tb_ckI prog_14_method_15_code tbI219
  | 0 => tb_p219_0
  | j + 1 => tb_ckP_ge (show tbI219.length ≤ 40 * (j + 1) from by rw [show tbI219.length = 21 from rfl]; omega)
theorem tb_p220_0 : tb_ckP prog_14_method_42_code tbI220 0 = true := by decide +kernel
theorem tb_p220_1 : tb_ckP prog_14_method_42_code tbI220 40 = true := by decide +kernel
theorem tb_p220_2 : tb_ckP prog_14_method_42_code tbI220 80 = true := by decide +kernel
theorem tb_p220_3 : tb_ckP prog_14_method_42_code tbI220 120 = true := by decide +kernel
theorem tb_p220_4 : tb_ckP prog_14_method_42_code tbI220 160 = true := by decide +kernel
theorem tb_p220_5 : tb_ckP prog_14_method_42_code tbI220 200 = true := by decide +kernel
theorem tb_ckI_220 : tb_ckI prog_14_method_42_code tbI220
  | 0 => tb_p220_0
  | 1 => tb_p220_1
  | 2 => tb_p220_2
  | 3 => tb_p220_3
  | 4 => tb_p220_4
  | 5 => tb_p220_5
  | j + 6 => tb_ckP_ge (show tbI220.length ≤ 40 * (j + 6) from by rw [show tbI220.length = 240 from rfl]; omega)
theorem tb_p221_0 : tb_ckP prog_14_method_35_code tbI221 0 = true := by decide +kernel
theorem tb_p221_1 : tb_ckP prog_14_method_35_code tbI221 40 = true := by decide +kernel
theorem tb_ckI_221 : tb_ckI prog_14_method_35_code tbI221
  | 0 => tb_p221_0
  | 1 => tb_p221_1
  | j + 2 => tb_ckP_ge (show tbI221.length ≤ 40 * (j + 2) from by rw [show tbI221.length = 42 from rfl]; omega)
theorem tb_p222_0 : tb_ckP prog_14_method_41_code tbI222 0 = true := by decide +kernel
theorem tb_p222_1 : tb_ckP prog_14_method_41_code tbI222 40 = true := by decide +kernel
theorem tb_p222_2 : tb_ckP prog_14_method_41_code tbI222 80 = true := by decide +kernel
theorem tb_p222_3 : tb_ckP prog_14_method_41_code tbI222 120 = true := by decide +kernel
theorem tb_p222_4 : tb_ckP prog_14_method_41_code tbI222 160 = true := by decide +kernel
theorem tb_p222_5 : tb_ckP prog_14_method_41_code tbI222 200 = true := by decide +kernel
theorem tb_p222_6 : tb_ckP prog_14_method_41_code tbI222 240 = true := by decide +kernel
theorem tb_p222_7 : tb_ckP prog_14_method_41_code tbI222 280 = true := by decide +kernel
theorem tb_ckI_222 : tb_ckI prog_14_method_41_code tbI222
  | 0 => tb_p222_0
  | 1 => tb_p222_1
  | 2 => tb_p222_2
  | 3 => tb_p222_3
  | 4 => tb_p222_4
  | 5 => tb_p222_5
  | 6 => tb_p222_6
  | 7 => tb_p222_7
  | j + 8 => tb_ckP_ge (show tbI222.length ≤ 40 * (j + 8) from by rw [show tbI222.length = 316 from rfl]; omega)
theorem tb_p223_0 : tb_ckP prog_14_method_34_code tbI223 0 = true := by decide +kernel
theorem tb_p223_1 : tb_ckP prog_14_method_34_code tbI223 40 = true := by decide +kernel
theorem tb_p223_2 : tb_ckP prog_14_method_34_code tbI223 80 = true := by decide +kernel
theorem tb_p223_3 : tb_ckP prog_14_method_34_code tbI223 120 = true := by decide +kernel
theorem tb_p223_4 : tb_ckP prog_14_method_34_code tbI223 160 = true := by decide +kernel
theorem tb_p223_5 : tb_ckP prog_14_method_34_code tbI223 200 = true := by decide +kernel
theorem tb_ckI_223 : tb_ckI prog_14_method_34_code tbI223
  | 0 => tb_p223_0
  | 1 => tb_p223_1
  | 2 => tb_p223_2
  | 3 => tb_p223_3
  | 4 => tb_p223_4
  | 5 => tb_p223_5
  | j + 6 => tb_ckP_ge (show tbI223.length ≤ 40 * (j + 6) from by rw [show tbI223.length = 210 from rfl]; omega)
theorem tb_p224_0 : tb_ckP prog_14_method_26_code tbI224 0 = true := by decide +kernel
theorem tb_p224_1 : tb_ckP prog_14_method_26_code tbI224 40 = true := by decide +kernel
theorem tb_p224_2 : tb_ckP prog_14_method_26_code tbI224 80 = true := by decide +kernel
theorem tb_p224_3 : tb_ckP prog_14_method_26_code tbI224 120 = true := by decide +kernel
theorem tb_p224_4 : tb_ckP prog_14_method_26_code tbI224 160 = true := by decide +kernel
theorem tb_p224_5 : tb_ckP prog_14_method_26_code tbI224 200 = true := by decide +kernel
theorem tb_p224_6 : tb_ckP prog_14_method_26_code tbI224 240 = true := by decide +kernel
theorem tb_p224_7 : tb_ckP prog_14_method_26_code tbI224 280 = true := by decide +kernel
theorem tb_p224_8 : tb_ckP prog_14_method_26_code tbI224 320 = true := by decide +kernel
theorem tb_p224_9 : tb_ckP prog_14_method_26_code tbI224 360 = true := by decide +kernel
theorem tb_p224_10 : tb_ckP prog_14_method_26_code tbI224 400 = true := by decide +kernel
theorem tb_p224_11 : tb_ckP prog_14_method_26_code tbI224 440 = true := by decide +kernel
theorem tb_p224_12 : tb_ckP prog_14_method_26_code tbI224 480 = true := by decide +kernel
theorem tb_p224_13 : tb_ckP prog_14_method_26_code tbI224 520 = true := by decide +kernel
theorem tb_p224_14 : tb_ckP prog_14_method_26_code tbI224 560 = true := by decide +kernel
theorem tb_p224_15 : tb_ckP prog_14_method_26_code tbI224 600 = true := by decide +kernel
theorem tb_ckI_224 : tb_ckI prog_14_method_26_code tbI224
  | 0 => tb_p224_0
  | 1 => tb_p224_1
  | 2 => tb_p224_2
  | 3 => tb_p224_3
  | 4 => tb_p224_4
  | 5 => tb_p224_5
  | 6 => tb_p224_6
  | 7 => tb_p224_7
  | 8 => tb_p224_8
  | 9 => tb_p224_9
  | 10 => tb_p224_10
  | 11 => tb_p224_11
  | 12 => tb_p224_12
  | 13 => tb_p224_13
  | 14 => tb_p224_14
  | 15 => tb_p224_15
  | j + 16 => tb_ckP_ge (show tbI224.length ≤ 40 * (j + 16) from by rw [show tbI224.length = 622 from rfl]; omega)
theorem tb_p225_0 : tb_ckP prog_14_method_18_code tbI225 0 = true := by decide +kernel
theorem tb_ckI_225 : tb_ckI prog_14_method_18_code tbI225
  | 0 => tb_p225_0
  | j + 1 => tb_ckP_ge (show tbI225.length ≤ 40 * (j + 1) from by rw [show tbI225.length = 32 from rfl]; omega)
theorem tb_p226_0 : tb_ckP prog_14_method_24_code tbI226 0 = true := by decide +kernel
theorem tb_p226_1 : tb_ckP prog_14_method_24_code tbI226 40 = true := by decide +kernel
theorem tb_p226_2 : tb_ckP prog_14_method_24_code tbI226 80 = true := by decide +kernel
theorem tb_ckI_226 : tb_ckI prog_14_method_24_code tbI226
  | 0 => tb_p226_0
  | 1 => tb_p226_1
  | 2 => tb_p226_2
  | j + 3 => tb_ckP_ge (show tbI226.length ≤ 40 * (j + 3) from by rw [show tbI226.length = 91 from rfl]; omega)
theorem tb_p227_0 : tb_ckP prog_14_method_22_code tbI227 0 = true := by decide +kernel
theorem tb_p227_1 : tb_ckP prog_14_method_22_code tbI227 40 = true := by decide +kernel
theorem tb_ckI_227 : tb_ckI prog_14_method_22_code tbI227
  | 0 => tb_p227_0
  | 1 => tb_p227_1
  | j + 2 => tb_ckP_ge (show tbI227.length ≤ 40 * (j + 2) from by rw [show tbI227.length = 55 from rfl]; omega)
theorem tb_p228_0 : tb_ckP prog_14_method_23_code tbI228 0 = true := by decide +kernel
theorem tb_p228_1 : tb_ckP prog_14_method_23_code tbI228 40 = true := by decide +kernel
theorem tb_p228_2 : tb_ckP prog_14_method_23_code tbI228 80 = true := by decide +kernel
theorem tb_p228_3 : tb_ckP prog_14_method_23_code tbI228 120 = true := by decide +kernel
theorem tb_ckI_228 : tb_ckI prog_14_method_23_code tbI228
  | 0 => tb_p228_0
  | 1 => tb_p228_1
  | 2 => tb_p228_2
  | 3 => tb_p228_3
  | j + 4 => tb_ckP_ge (show tbI228.length ≤ 40 * (j + 4) from by rw [show tbI228.length = 149 from rfl]; omega)
theorem tb_p229_0 : tb_ckP prog_14_method_27_code tbI229 0 = true := by decide +kernel
theorem tb_p229_1 : tb_ckP prog_14_method_27_code tbI229 40 = true := by decide +kernel
theorem tb_ckI_229 : tb_ckI prog_14_method_27_code tbI229
  | 0 => tb_p229_0
  | 1 => tb_p229_1
  | j + 2 => tb_ckP_ge (show tbI229.length ≤ 40 * (j + 2) from by rw [show tbI229.length = 76 from rfl]; omega)
theorem tb_p230_0 : tb_ckP prog_14_method_25_code tbI230 0 = true := by decide +kernel
theorem tb_p230_1 : tb_ckP prog_14_method_25_code tbI230 40 = true := by decide +kernel
theorem tb_ckI_230 : tb_ckI prog_14_method_25_code tbI230
  | 0 => tb_p230_0
  | 1 => tb_p230_1
  | j + 2 => tb_ckP_ge (show tbI230.length ≤ 40 * (j + 2) from by rw [show tbI230.length = 55 from rfl]; omega)
theorem tb_p231_0 : tb_ckP prog_14_method_28_code tbI231 0 = true := by decide +kernel
theorem tb_p231_1 : tb_ckP prog_14_method_28_code tbI231 40 = true := by decide +kernel
theorem tb_p231_2 : tb_ckP prog_14_method_28_code tbI231 80 = true := by decide +kernel
theorem tb_ckI_231 : tb_ckI prog_14_method_28_code tbI231
  | 0 => tb_p231_0
  | 1 => tb_p231_1
  | 2 => tb_p231_2
  | j + 3 => tb_ckP_ge (show tbI231.length ≤ 40 * (j + 3) from by rw [show tbI231.length = 85 from rfl]; omega)
theorem tb_p232_0 : tb_ckP prog_14_method_29_code tbI232 0 = true := by decide +kernel
theorem tb_p232_1 : tb_ckP prog_14_method_29_code tbI232 40 = true := by decide +kernel
theorem tb_ckI_232 : tb_ckI prog_14_method_29_code tbI232
  | 0 => tb_p232_0
  | 1 => tb_p232_1
  | j + 2 => tb_ckP_ge (show tbI232.length ≤ 40 * (j + 2) from by rw [show tbI232.length = 57 from rfl]; omega)
theorem tb_p233_0 : tb_ckP prog_14_method_33_code tbI233 0 = true := by decide +kernel
theorem tb_p233_1 : tb_ckP prog_14_method_33_code tbI233 40 = true := by decide +kernel
theorem tb_ckI_233 : tb_ckI prog_14_method_33_code tbI233
  | 0 => tb_p233_0
  | 1 => tb_p233_1
  | j + 2 => tb_ckP_ge (show tbI233.length ≤ 40 * (j + 2) from by rw [show tbI233.length = 63 from rfl]; omega)
theorem tb_p234_0 : tb_ckP prog_14_method_30_code tbI234 0 = true := by decide +kernel
theorem tb_p234_1 : tb_ckP prog_14_method_30_code tbI234 40 = true := by decide +kernel
theorem tb_p234_2 : tb_ckP prog_14_method_30_code tbI234 80 = true := by decide +kernel
theorem tb_p234_3 : tb_ckP prog_14_method_30_code tbI234 120 = true := by decide +kernel
theorem tb_ckI_234 : tb_ckI prog_14_method_30_code tbI234
  | 0 => tb_p234_0
  | 1 => tb_p234_1
  | 2 => tb_p234_2
  | 3 => tb_p234_3
  | j + 4 => tb_ckP_ge (show tbI234.length ≤ 40 * (j + 4) from by rw [show tbI234.length = 140 from rfl]; omega)
theorem tb_p235_0 : tb_ckP prog_14_method_32_code tbI235 0 = true := by decide +kernel
theorem tb_p235_1 : tb_ckP prog_14_method_32_code tbI235 40 = true := by decide +kernel
theorem tb_p235_2 : tb_ckP prog_14_method_32_code tbI235 80 = true := by decide +kernel
theorem tb_p235_3 : tb_ckP prog_14_method_32_code tbI235 120 = true := by decide +kernel
theorem tb_p235_4 : tb_ckP prog_14_method_32_code tbI235 160 = true := by decide +kernel
theorem tb_p235_5 : tb_ckP prog_14_method_32_code tbI235 200 = true := by decide +kernel
theorem tb_ckI_235 : tb_ckI prog_14_method_32_code tbI235
  | 0 => tb_p235_0
  | 1 => tb_p235_1
  | 2 => tb_p235_2
  | 3 => tb_p235_3
  | 4 => tb_p235_4
  | 5 => tb_p235_5
  | j + 6 => tb_ckP_ge (show tbI235.length ≤ 40 * (j + 6) from by rw [show tbI235.length = 218 from rfl]; omega)
theorem tb_p236_0 : tb_ckP prog_14_method_31_code tbI236 0 = true := by decide +kernel
theorem tb_p236_1 : tb_ckP prog_14_method_31_code tbI236 40 = true := by decide +kernel
theorem tb_p236_2 : tb_ckP prog_14_method_31_code tbI236 80 = true := by decide +kernel
theorem tb_p236_3 : tb_ckP prog_14_method_31_code tbI236 120 = true := by decide +kernel
theorem tb_p236_4 : tb_ckP prog_14_method_31_code tbI236 160 = true := by decide +kernel
theorem tb_p236_5 : tb_ckP prog_14_method_31_code tbI236 200 = true := by decide +kernel
theorem tb_ckI_236 : tb_ckI prog_14_method_31_code tbI236
  | 0 => tb_p236_0
  | 1 => tb_p236_1
  | 2 => tb_p236_2
  | 3 => tb_p236_3
  | 4 => tb_p236_4
  | 5 => tb_p236_5
  | j + 6 => tb_ckP_ge (show tbI236.length ≤ 40 * (j + 6) from by rw [show tbI236.length = 202 from rfl]; omega)
theorem tb_p237_0 : tb_ckP prog_14_method_39_code tbI237 0 = true := by decide +kernel
theorem tb_p237_1 : tb_ckP prog_14_method_39_code tbI237 40 = true := by decide +kernel
theorem tb_p237_2 : tb_ckP prog_14_method_39_code tbI237 80 = true := by decide +kernel
theorem tb_p237_3 : tb_ckP prog_14_method_39_code tbI237 120 = true := by decide +kernel
theorem tb_ckI_237 : tb_ckI prog_14_method_39_code tbI237
  | 0 => tb_p237_0
  | 1 => tb_p237_1
  | 2 => tb_p237_2
  | 3 => tb_p237_3
  | j + 4 => tb_ckP_ge (show tbI237.length ≤ 40 * (j + 4) from by rw [show tbI237.length = 126 from rfl]; omega)
theorem tb_p238_0 : tb_ckP prog_14_method_38_code tbI238 0 = true := by decide +kernel
theorem tb_p238_1 : tb_ckP prog_14_method_38_code tbI238 40 = true := by decide +kernel
theorem tb_p238_2 : tb_ckP prog_14_method_38_code tbI238 80 = true := by decide +kernel
theorem tb_ckI_238 : tb_ckI prog_14_method_38_code tbI238
  | 0 => tb_p238_0
  | 1 => tb_p238_1
  | 2 => tb_p238_2
  | j + 3 => tb_ckP_ge (show tbI238.length ≤ 40 * (j + 3) from by rw [show tbI238.length = 96 from rfl]; omega)
theorem tb_p239_0 : tb_ckP prog_14_method_37_code tbI239 0 = true := by decide +kernel
theorem tb_p239_1 : tb_ckP prog_14_method_37_code tbI239 40 = true := by decide +kernel
theorem tb_p239_2 : tb_ckP prog_14_method_37_code tbI239 80 = true := by decide +kernel
theorem tb_ckI_239 : tb_ckI prog_14_method_37_code tbI239
  | 0 => tb_p239_0
  | 1 => tb_p239_1
  | 2 => tb_p239_2
  | j + 3 => tb_ckP_ge (show tbI239.length ≤ 40 * (j + 3) from by rw [show tbI239.length = 83 from rfl]; omega)
theorem tb_p240_0 : tb_ckP prog_14_method_36_code tbI240 0 = true := by decide +kernel
theorem tb_p240_1 : tb_ckP prog_14_method_36_code tbI240 40 = true := by decide +kernel
theorem tb_ckI_240 : tb_ckI prog_14_method_36_code tbI240
  | 0 => tb_p240_0
  | 1 => tb_p240_1
  | j + 2 => tb_ckP_ge (show tbI240.length ≤ 40 * (j + 2) from by rw [show tbI240.length = 68 from rfl]; omega)
theorem tb_p241_0 : tb_ckP prog_14_method_40_code tbI241 0 = true := by decide +kernel
theorem tb_p241_1 : tb_ckP prog_14_method_40_code tbI241 40 = true := by decide +kernel
theorem tb_p241_2 : tb_ckP prog_14_method_40_code tbI241 80 = true := by decide +kernel
theorem tb_p241_3 : tb_ckP prog_14_method_40_code tbI241 120 = true := by decide +kernel
theorem tb_p241_4 : tb_ckP prog_14_method_40_code tbI241 160 = true := by decide +kernel
theorem tb_p241_5 : tb_ckP prog_14_method_40_code tbI241 200 = true := by decide +kernel
theorem tb_p241_6 : tb_ckP prog_14_method_40_code tbI241 240 = true := by decide +kernel
theorem tb_p241_7 : tb_ckP prog_14_method_40_code tbI241 280 = true := by decide +kernel
theorem tb_p241_8 : tb_ckP prog_14_method_40_code tbI241 320 = true := by decide +kernel
theorem tb_ckI_241 : tb_ckI prog_14_method_40_code tbI241
  | 0 => tb_p241_0
  | 1 => tb_p241_1
  | 2 => tb_p241_2
  | 3 => tb_p241_3
  | 4 => tb_p241_4
  | 5 => tb_p241_5
  | 6 => tb_p241_6
  | 7 => tb_p241_7
  | 8 => tb_p241_8
  | j + 9 => tb_ckP_ge (show tbI241.length ≤ 40 * (j + 9) from by rw [show tbI241.length = 336 from rfl]; omega)
theorem tb_p242_0 : tb_ckP prog_14_method_44_code tbI242 0 = true := by decide +kernel
theorem tb_p242_1 : tb_ckP prog_14_method_44_code tbI242 40 = true := by decide +kernel
theorem tb_p242_2 : tb_ckP prog_14_method_44_code tbI242 80 = true := by decide +kernel
theorem tb_p242_3 : tb_ckP prog_14_method_44_code tbI242 120 = true := by decide +kernel
theorem tb_p242_4 : tb_ckP prog_14_method_44_code tbI242 160 = true := by decide +kernel
theorem tb_ckI_242 : tb_ckI prog_14_method_44_code tbI242
  | 0 => tb_p242_0
  | 1 => tb_p242_1
  | 2 => tb_p242_2
  | 3 => tb_p242_3
  | 4 => tb_p242_4
  | j + 5 => tb_ckP_ge (show tbI242.length ≤ 40 * (j + 5) from by rw [show tbI242.length = 163 from rfl]; omega)
theorem tb_p243_0 : tb_ckP prog_14_method_43_code tbI243 0 = true := by decide +kernel
theorem tb_p243_1 : tb_ckP prog_14_method_43_code tbI243 40 = true := by decide +kernel
theorem tb_p243_2 : tb_ckP prog_14_method_43_code tbI243 80 = true := by decide +kernel
theorem tb_p243_3 : tb_ckP prog_14_method_43_code tbI243 120 = true := by decide +kernel
theorem tb_p243_4 : tb_ckP prog_14_method_43_code tbI243 160 = true := by decide +kernel
theorem tb_ckI_243 : tb_ckI prog_14_method_43_code tbI243
  | 0 => tb_p243_0
  | 1 => tb_p243_1
  | 2 => tb_p243_2
  | 3 => tb_p243_3
  | 4 => tb_p243_4
  | j + 5 => tb_ckP_ge (show tbI243.length ≤ 40 * (j + 5) from by rw [show tbI243.length = 184 from rfl]; omega)
theorem tb_p244_0 : tb_ckP prog_14_method_66_code tbI244 0 = true := by decide +kernel
theorem tb_p244_1 : tb_ckP prog_14_method_66_code tbI244 40 = true := by decide +kernel
theorem tb_p244_2 : tb_ckP prog_14_method_66_code tbI244 80 = true := by decide +kernel
theorem tb_p244_3 : tb_ckP prog_14_method_66_code tbI244 120 = true := by decide +kernel
theorem tb_p244_4 : tb_ckP prog_14_method_66_code tbI244 160 = true := by decide +kernel
theorem tb_p244_5 : tb_ckP prog_14_method_66_code tbI244 200 = true := by decide +kernel
theorem tb_p244_6 : tb_ckP prog_14_method_66_code tbI244 240 = true := by decide +kernel
theorem tb_p244_7 : tb_ckP prog_14_method_66_code tbI244 280 = true := by decide +kernel
theorem tb_ckI_244 : tb_ckI prog_14_method_66_code tbI244
  | 0 => tb_p244_0
  | 1 => tb_p244_1
  | 2 => tb_p244_2
  | 3 => tb_p244_3
  | 4 => tb_p244_4
  | 5 => tb_p244_5
  | 6 => tb_p244_6
  | 7 => tb_p244_7
  | j + 8 => tb_ckP_ge (show tbI244.length ≤ 40 * (j + 8) from by rw [show tbI244.length = 287 from rfl]; omega)
theorem tb_p245_0 : tb_ckP prog_14_method_53_code tbI245 0 = true := by decide +kernel
theorem tb_p245_1 : tb_ckP prog_14_method_53_code tbI245 40 = true := by decide +kernel
theorem tb_p245_2 : tb_ckP prog_14_method_53_code tbI245 80 = true := by decide +kernel
theorem tb_ckI_245 : tb_ckI prog_14_method_53_code tbI245
  | 0 => tb_p245_0
  | 1 => tb_p245_1
  | 2 => tb_p245_2
  | j + 3 => tb_ckP_ge (show tbI245.length ≤ 40 * (j + 3) from by rw [show tbI245.length = 87 from rfl]; omega)
