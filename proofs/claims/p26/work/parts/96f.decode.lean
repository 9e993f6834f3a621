theorem tb_p205_0 : tb_ckP prog_14_method_5_code tbI205 0 = true := by decide +kernel
theorem tb_ln205 : tbI205.length = 12 := by decide +kernel
theorem tb_ckI_205 : tb_ckI prog_14_method_5_code tbI205
  | 0 => tb_p205_0
  | j + 1 => tb_ckP_ge (show tbI205.length ≤ 40 * (j + 1) from by rw [tb_ln205]; omega)
theorem tb_p206_0 : tb_ckP prog_14_method_7_code tbI206 0 = true := by decide +kernel
theorem tb_p206_1 : tb_ckP prog_14_method_7_code tbI206 40 = true := by decide +kernel
theorem tb_p206_2 : tb_ckP prog_14_method_7_code tbI206 80 = true := by decide +kernel
theorem tb_p206_3 : tb_ckP prog_14_method_7_code tbI206 120 = true := by decide +kernel
theorem tb_ln206 : tbI206.length = 139 := by decide +kernel
theorem tb_ckI_206 : tb_ckI prog_14_method_7_code tbI206
  | 0 => tb_p206_0
  | 1 => tb_p206_1
  | 2 => tb_p206_2
  | 3 => tb_p206_3
  | j + 4 => tb_ckP_ge (show tbI206.length ≤ 40 * (j + 4) from by rw [tb_ln206]; omega)
theorem tb_p207_0 : tb_ckP prog_14_method_13_code tbI207 0 = true := by decide +kernel
theorem tb_ln207 : tbI207.length = 25 := by decide +kernel
theorem tb_ckI_207 : tb_ckI prog_14_method_13_code tbI207
  | 0 => tb_p207_0
  | j + 1 => tb_ckP_ge (show tbI207.length ≤ 40 * (j + 1) from by rw [tb_ln207]; omega)
theorem tb_p208_0 : tb_ckP prog_14_method_20_code tbI208 0 = true := by decide +kernel
theorem tb_p208_1 : tb_ckP prog_14_method_20_code tbI208 40 = true := by decide +kernel
theorem tb_p208_2 : tb_ckP prog_14_method_20_code tbI208 80 = true := by decide +kernel
theorem tb_p208_3 : tb_ckP prog_14_method_20_code tbI208 120 = true := by decide +kernel
theorem tb_p208_4 : tb_ckP prog_14_method_20_code tbI208 160 = true := by decide +kernel
theorem tb_p208_5 : tb_ckP prog_14_method_20_code tbI208 200 = true := by decide +kernel
theorem tb_p208_6 : tb_ckP prog_14_method_20_code tbI208 240 = true := by decide +kernel
theorem tb_ln208 : tbI208.length = 242 := by decide +kernel
theorem tb_ckI_208 : tb_ckI prog_14_method_20_code tbI208
  | 0 => tb_p208_0
  | 1 => tb_p208_1
  | 2 => tb_p208_2
  | 3 => tb_p208_3
  | 4 => tb_p208_4
  | 5 => tb_p208_5
  | 6 => tb_p208_6
  | j + 7 => tb_ckP_ge (show tbI208.length ≤ 40 * (j + 7) from by rw [tb_ln208]; omega)
theorem tb_p209_0 : tb_ckP prog_14_method_11_code tbI209 0 = true := by decide +kernel
theorem tb_ln209 : tbI209.length = 23 := by decide +kernel
theorem tb_ckI_209 : tb_ckI prog_14_method_11_code tbI209
  | 0 => tb_p209_0
  | j + 1 => tb_ckP_ge (show tbI209.length ≤ 40 * (j + 1) from by rw [tb_ln209]; omega)
theorem tb_p210_0 : tb_ckP prog_14_method_10_code tbI210 0 = true := by decide +kernel
theorem tb_ln210 : tbI210.length = 18 := by decide +kernel
theorem tb_ckI_210 : tb_ckI prog_14_method_10_code tbI210
  | 0 => tb_p210_0
  | j + 1 => tb_ckP_ge (show tbI210.length ≤ 40 * (j + 1) from by rw [tb_ln210]; omega)
theorem tb_p211_0 : tb_ckP prog_14_method_16_code tbI211 0 = true := by decide +kernel
theorem tb_p211_1 : tb_ckP prog_14_method_16_code tbI211 40 = true := by decide +kernel
theorem tb_ln211 : tbI211.length = 42 := by decide +kernel
theorem tb_ckI_211 : tb_ckI prog_14_method_16_code tbI211
  | 0 => tb_p211_0
  | 1 => tb_p211_1
  | j + 2 => tb_ckP_ge (show tbI211.length ≤ 40 * (j + 2) from by rw [tb_ln211]; omega)
theorem tb_p212_0 : tb_ckP prog_14_method_21_code tbI212 0 = true := by decide +kernel
theorem tb_p212_1 : tb_ckP prog_14_method_21_code tbI212 40 = true := by decide +kernel
theorem tb_p212_2 : tb_ckP prog_14_method_21_code tbI212 80 = true := by decide +kernel
theorem tb_ln212 : tbI212.length = 95 := by decide +kernel
theorem tb_ckI_212 : tb_ckI prog_14_method_21_code tbI212
  | 0 => tb_p212_0
  | 1 => tb_p212_1
  | 2 => tb_p212_2
  | j + 3 => tb_ckP_ge (show tbI212.length ≤ 40 * (j + 3) from by rw [tb_ln212]; omega)
theorem tb_p213_0 : tb_ckP prog_14_method_17_code tbI213 0 = true := by decide +kernel
theorem tb_ln213 : tbI213.length = 40 := by decide +kernel
theorem tb_ckI_213 : tb_ckI prog_14_method_17_code tbI213
  | 0 => tb_p213_0
  | j + 1 => tb_ckP_ge (show tbI213.length ≤ 40 * (j + 1) from by rw [tb_ln213]; omega)
theorem tb_p214_0 : tb_ckP prog_14_method_14_code tbI214 0 = true := by decide +kernel
theorem tb_ln214 : tbI214.length = 31 := by decide +kernel
theorem tb_ckI_214 : tb_ckI prog_14_method_14_code tbI214
  | 0 => tb_p214_0
  | j + 1 => tb_ckP_ge (show tbI214.length ≤ 40 * (j + 1) from by rw [tb_ln214]; omega)
theorem tb_p215_0 : tb_ckP prog_14_method_12_code tbI215 0 = true := by decide +kernel
theorem tb_ln215 : tbI215.length = 24 := by decide +kernel
theorem tb_ckI_215 : tb_ckI prog_14_method_12_code tbI215
  | 0 => tb_p215_0
  | j + 1 => tb_ckP_ge (show tbI215.length ≤ 40 * (j + 1) from by rw [tb_ln215]; omega)
theorem tb_p216_0 : tb_ckP prog_14_method_19_code tbI216 0 = true := by decide +kernel
theorem tb_p216_1 : tb_ckP prog_14_method_19_code tbI216 40 = true := by decide +kernel
theorem tb_p216_2 : tb_ckP prog_14_method_19_code tbI216 80 = true := by decide +kernel
theorem tb_ln216 : tbI216.length = 109 := by decide +kernel
theorem tb_ckI_216 : tb_ckI prog_14_method_19_code tbI216
  | 0 => tb_p216_0
  | 1 => tb_p216_1
  | 2 => tb_p216_2
  | j + 3 => tb_ckP_ge (show tbI216.length ≤ 40 * (j + 3) from by rw [tb_ln216]; omega)
theorem tb_p217_0 : tb_ckP prog_14_method_15_code tbI217 0 = true := by decide +kernel
theorem tb_ln217 : tbI217.length = 21 := by decide +kernel
theorem tb_ckI_217 : tb_ckI prog_14_method_15_code tbI217
  | 0 => tb_p217_0
  | j + 1 => tb_ckP_ge (show tbI217.length ≤ 40 * (j + 1) from by rw [tb_ln217]; omega)
theorem tb_p218_0 : tb_ckP prog_14_method_42_code tbI218 0 = true := by decide +kernel
theorem tb_p218_1 : tb_ckP prog_14_method_42_code tbI218 40 = true := by decide +kernel
theorem tb_p218_2 : tb_ckP prog_14_method_42_code tbI218 80 = true := by decide +kernel
theorem tb_p218_3 : tb_ckP prog_14_method_42_code tbI218 120 = true := by decide +kernel
theorem tb_p218_4 : tb_ckP prog_14_method_42_code tbI218 160 = true := by decide +kernel
theorem tb_p218_5 : tb_ckP prog_14_method_42_code tbI218 200 = true := by decide +kernel
theorem tb_ln218 : tbI218.length = 240 := by decide +kernel
theorem tb_ckI_218 : tb_ckI prog_14_method_42_code tbI218
  | 0 => tb_p218_0
  | 1 => tb_p218_1
  | 2 => tb_p218_2
  | 3 => tb_p218_3
  | 4 => tb_p218_4
  | 5 => tb_p218_5
  | j + 6 => tb_ckP_ge (show tbI218.length ≤ 40 * (j + 6) from by rw [tb_ln218]; omega)
theorem tb_p219_0 : tb_ckP prog_14_method_35_code tbI219 0 = true := by decide +kernel
theorem tb_p219_1 : tb_ckP prog_14_method_35_code tbI219 40 = true := by decide +kernel
theorem tb_ln219 : tbI219.length = 42 := by decide +kernel
theorem tb_ckI_219 : tb_ckI prog_14_method_35_code tbI219
  | 0 => tb_p219_0
  | 1 => tb_p219_1
  | j + 2 => tb_ckP_ge (show tbI219.length ≤ 40 * (j + 2) from by rw [tb_ln219]; omega)
theorem tb_p220_0 : tb_ckP prog_14_method_41_code tbI220 0 = true := by decide +kernel
theorem tb_p220_1 : tb_ckP prog_14_method_41_code tbI220 40 = true := by decide +kernel
theorem tb_p220_2 : tb_ckP prog_14_method_41_code tbI220 80 = true := by decide +kernel
theorem tb_p220_3 : tb_ckP prog_14_method_41_code tbI220 120 = true := by decide +kernel
theorem tb_p220_4 : tb_ckP prog_14_method_41_code tbI220 160 = true := by decide +kernel
theorem tb_p220_5 : tb_ckP prog_14_method_41_code tbI220 200 = true := by decide +kernel
theorem tb_p220_6 : tb_ckP prog_14_method_41_code tbI220 240 = true := by decide +kernel
theorem tb_p220_7 : tb_ckP prog_14_method_41_code tbI220 280 = true := by decide +kernel
theorem tb_ln220 : tbI220.length = 316 := by decide +kernel
theorem tb_ckI_220 : tb_ckI prog_14_method_41_code tbI220
  | 0 => tb_p220_0
  | 1 => tb_p220_1
  | 2 => tb_p220_2
  | 3 => tb_p220_3
  | 4 => tb_p220_4
  | 5 => tb_p220_5
  | 6 => tb_p220_6
  | 7 => tb_p220_7
  | j + 8 => tb_ckP_ge (show tbI220.length ≤ 40 * (j + 8) from by rw [tb_ln220]; omega)
theorem tb_p221_0 : tb_ckP prog_14_method_34_code tbI221 0 = true := by decide +kernel
theorem tb_p221_1 : tb_ckP prog_14_method_34_code tbI221 40 = true := by decide +kernel
theorem tb_p221_2 : tb_ckP prog_14_method_34_code tbI221 80 = true := by decide +kernel
theorem tb_p221_3 : tb_ckP prog_14_method_34_code tbI221 120 = true := by decide +kernel
theorem tb_p221_4 : tb_ckP prog_14_method_34_code tbI221 160 = true := by decide +kernel
theorem tb_p221_5 : tb_ckP prog_14_method_34_code tbI221 200 = true := by decide +kernel
theorem tb_ln221 : tbI221.length = 210 := by decide +kernel
theorem tb_ckI_221 : tb_ckI prog_14_method_34_code tbI221
  | 0 => tb_p221_0
  | 1 => tb_p221_1
  | 2 => tb_p221_2
  | 3 => tb_p221_3
  | 4 => tb_p221_4
  | 5 => tb_p221_5
  | j + 6 => tb_ckP_ge (show tbI221.length ≤ 40 * (j + 6) from by rw [tb_ln221]; omega)
theorem tb_p222_0 : tb_ckP prog_14_method_26_code tbI222 0 = true := by decide +kernel
theorem tb_p222_1 : tb_ckP prog_14_method_26_code tbI222 40 = true := by decide +kernel
theorem tb_p222_2 : tb_ckP prog_14_method_26_code tbI222 80 = true := by decide +kernel
theorem tb_p222_3 : tb_ckP prog_14_method_26_code tbI222 120 = true := by decide +kernel
theorem tb_p222_4 : tb_ckP prog_14_method_26_code tbI222 160 = true := by decide +kernel
theorem tb_p222_5 : tb_ckP prog_14_method_26_code tbI222 200 = true := by decide +kernel
theorem tb_p222_6 : tb_ckP prog_14_method_26_code tbI222 240 = true := by decide +kernel
theorem tb_p222_7 : tb_ckP prog_14_method_26_code tbI222 280 = true := by decide +kernel
theorem tb_p222_8 : tb_ckP prog_14_method_26_code tbI222 320 = true := by decide +kernel
theorem tb_p222_9 : tb_ckP prog_14_method_26_code tbI222 360 = true := by decide +kernel
theorem tb_p222_10 : tb_ckP prog_14_method_26_code tbI222 400 = true := by decide +kernel
theorem tb_p222_11 : tb_ckP prog_14_method_26_code tbI222 440 = true := by decide +kernel
theorem tb_p222_12 : tb_ckP prog_14_method_26_code tbI222 480 = true := by decide +kernel
theorem tb_p222_13 : tb_ckP prog_14_method_26_code tbI222 520 = true := by decide +kernel
theorem tb_p222_14 : tb_ckP prog_14_method_26_code tbI222 560 = true := by decide +kernel
theorem tb_p222_15 : tb_ckP prog_14_method_26_code tbI222 600 = true := by decide +kernel
theorem tb_ln222 : tbI222.length = 622 := by decide +kernel
theorem tb_ckI_222 : tb_ckI prog_14_method_26_code tbI222
  | 0 => tb_p222_0
  | 1 => tb_p222_1
  | 2 => tb_p222_2
  | 3 => tb_p222_3
  | 4 => tb_p222_4
  | 5 => tb_p222_5
  | 6 => tb_p222_6
  | 7 => tb_p222_7
  | 8 => tb_p222_8
  | 9 => tb_p222_9
  | 10 => tb_p222_10
  | 11 => tb_p222_11
  | 12 => tb_p222_12
  | 13 => tb_p222_13
  | 14 => tb_p222_14
  | 15 => tb_p222_15
  | j + 16 => tb_ckP_ge (show tbI222.length ≤ 40 * (j + 16) from by rw [tb_ln222]; omega)
theorem tb_p223_0 : tb_ckP prog_14_method_18_code tbI223 0 = true := by decide +kernel
theorem tb_ln223 : tbI223.length = 32 := by decide +kernel
theorem tb_ckI_223 : tb_ckI prog_14_method_18_code tbI223
  | 0 => tb_p223_0
  | j + 1 => tb_ckP_ge (show tbI223.length ≤ 40 * (j + 1) from by rw [tb_ln223]; omega)
theorem tb_p224_0 : tb_ckP prog_14_method_24_code tbI224 0 = true := by decide +kernel
theorem tb_p224_1 : tb_ckP prog_14_method_24_code tbI224 40 = true := by decide +kernel
theorem tb_p224_2 : tb_ckP prog_14_method_24_code tbI224 80 = true := by decide +kernel
theorem tb_ln224 : tbI224.length = 91 := by decide +kernel
theorem tb_ckI_224 : tb_ckI prog_14_method_24_code tbI224
  | 0 => tb_p224_0
  | 1 => tb_p224_1
  | 2 => tb_p224_2
  | j + 3 => tb_ckP_ge (show tbI224.length ≤ 40 * (j + 3) from by rw [tb_ln224]; omega)
theorem tb_p225_0 : tb_ckP prog_14_method_22_code tbI225 0 = true := by decide +kernel
theorem tb_p225_1 : tb_ckP prog_14_method_22_code tbI225 40 = true := by decide +kernel
theorem tb_ln225 : tbI225.length = 55 := by decide +kernel
theorem tb_ckI_225 : tb_ckI prog_14_method_22_code tbI225
  | 0 => tb_p225_0
  | 1 => tb_p225_1
  | j + 2 => tb_ckP_ge (show tbI225.length ≤ 40 * (j + 2) from by rw [tb_ln225]; omega)
theorem tb_p226_0 : tb_ckP prog_14_method_23_code tbI226 0 = true := by decide +kernel
theorem tb_p226_1 : tb_ckP prog_14_method_23_code tbI226 40 = true := by decide +kernel
theorem tb_p226_2 : tb_ckP prog_14_method_23_code tbI226 80 = true := by decide +kernel
theorem tb_p226_3 : tb_ckP prog_14_method_23_code tbI226 120 = true := by decide +kernel
theorem tb_ln226 : tbI226.length = 149 := by decide +kernel
theorem tb_ckI_226 : tb_ckI prog_14_method_23_code tbI226
  | 0 => tb_p226_0
  | 1 => tb_p226_1
  | 2 => tb_p226_2
  | 3 => tb_p226_3
  | j + 4 => tb_ckP_ge (show tbI226.length ≤ 40 * (j + 4) from by rw [tb_ln226]; omega)
theorem tb_p227_0 : tb_ckP prog_14_method_27_code tbI227 0 = true := by decide +kernel
theorem tb_p227_1 : tb_ckP prog_14_method_27_code tbI227 40 = true := by decide +kernel
theorem tb_ln227 : tbI227.length = 76 := by decide +kernel
theorem tb_ckI_227 : tb_ckI prog_14_method_27_code tbI227
  | 0 => tb_p227_0
  | 1 => tb_p227_1
  | j + 2 => tb_ckP_ge (show tbI227.length ≤ 40 * (j + 2) from by rw [tb_ln227]; omega)
theorem tb_p228_0 : tb_ckP prog_14_method_25_code tbI228 0 = true := by decide +kernel
theorem tb_p228_1 : tb_ckP prog_14_method_25_code tbI228 40 = true := by decide +kernel
theorem tb_ln228 : tbI228.length = 55 := by decide +kernel
theorem tb_ckI_228 : tb_ckI prog_14_method_25_code tbI228
  | 0 => tb_p228_0
  | 1 => tb_p228_1
  | j + 2 => tb_ckP_ge (show tbI228.length ≤ 40 * (j + 2) from by rw [tb_ln228]; omega)
theorem tb_p229_0 : tb_ckP prog_14_method_28_code tbI229 0 = true := by decide +kernel
theorem tb_p229_1 : tb_ckP prog_14_method_28_code tbI229 40 = true := by decide +kernel
theorem tb_p229_2 : tb_ckP prog_14_method_28_code tbI229 80 = true := by decide +kernel
theorem tb_ln229 : tbI229.length = 85 := by decide +kernel
theorem tb_ckI_229 : tb_ckI prog_14_method_28_code tbI229
  | 0 => tb_p229_0
  | 1 => tb_p229_1
  | 2 => tb_p229_2
  | j + 3 => tb_ckP_ge (show tbI229.length ≤ 40 * (j + 3) from by rw [tb_ln229]; omega)
theorem tb_p230_0 : tb_ckP prog_14_method_29_code tbI230 0 = true := by decide +kernel
theorem tb_p230_1 : tb_ckP prog_14_method_29_code tbI230 40 = true := by decide +kernel
theorem tb_ln230 : tbI230.length = 57 := by decide +kernel
theorem tb_ckI_230 : tb_ckI prog_14_method_29_code tbI230
  | 0 => tb_p230_0
  | 1 => tb_p230_1
  | j + 2 => tb_ckP_ge (show tbI230.length ≤ 40 * (j + 2) from by rw [tb_ln230]; omega)
theorem tb_p231_0 : tb_ckP prog_14_method_33_code tbI231 0 = true := by decide +kernel
theorem tb_p231_1 : tb_ckP prog_14_method_33_code tbI231 40 = true := by decide +kernel
theorem tb_ln231 : tbI231.length = 63 := by decide +kernel
theorem tb_ckI_231 : tb_ckI prog_14_method_33_code tbI231
  | 0 => tb_p231_0
  | 1 => tb_p231_1
  | j + 2 => tb_ckP_ge (show tbI231.length ≤ 40 * (j + 2) from by rw [tb_ln231]; omega)
