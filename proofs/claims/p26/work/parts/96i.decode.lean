theorem tb_p280_0 : tb_ckP prog_14_method_86_code tbI280 0 = true := by decide +kernel
theorem tb_p280_1 : tb_ckP prog_14_method_86_code tbI280 40 = true := by decide +kernel
theorem tb_p280_2 : tb_ckP prog_14_method_86_code tbI280 80 = true := by decide +kernel
theorem tb_p280_3 : tb_ckP prog_14_method_86_code tbI280 120 = true := by decide +kernel
theorem tb_p280_4 : tb_ckP prog_14_method_86_code tbI280 160 = true := by decide +kernel
theorem tb_p280_5 : tb_ckP prog_14_method_86_code tbI280 200 = true := by decide +kernel
theorem tb_ln280 : tbI280.length = 223 := by decide +kernel
theorem tb_ckI_280 : tb_ckI prog_14_method_86_code tbI280
  | 0 => tb_p280_0
  | 1 => tb_p280_1
  | 2 => tb_p280_2
  | 3 => tb_p280_3
  | 4 => tb_p280_4
  | 5 => tb_p280_5
  | j + 6 => tb_ckP_ge (show tbI280.length ≤ 40 * (j + 6) from by rw [tb_ln280]; omega)
theorem tb_p281_0 : tb_ckP prog_14_method_79_code tbI281 0 = true := by decide +kernel
theorem tb_ln281 : tbI281.length = 14 := by decide +kernel
theorem tb_ckI_281 : tb_ckI prog_14_method_79_code tbI281
  | 0 => tb_p281_0
  | j + 1 => tb_ckP_ge (show tbI281.length ≤ 40 * (j + 1) from by rw [tb_ln281]; omega)
theorem tb_p282_0 : tb_ckP prog_14_method_85_code tbI282 0 = true := by decide +kernel
theorem tb_p282_1 : tb_ckP prog_14_method_85_code tbI282 40 = true := by decide +kernel
theorem tb_ln282 : tbI282.length = 63 := by decide +kernel
theorem tb_ckI_282 : tb_ckI prog_14_method_85_code tbI282
  | 0 => tb_p282_0
  | 1 => tb_p282_1
  | j + 2 => tb_ckP_ge (show tbI282.length ≤ 40 * (j + 2) from by rw [tb_ln282]; omega)
theorem tb_p283_0 : tb_ckP prog_14_method_87_code tbI283 0 = true := by decide +kernel
theorem tb_p283_1 : tb_ckP prog_14_method_87_code tbI283 40 = true := by decide +kernel
theorem tb_p283_2 : tb_ckP prog_14_method_87_code tbI283 80 = true := by decide +kernel
theorem tb_ln283 : tbI283.length = 118 := by decide +kernel
theorem tb_ckI_283 : tb_ckI prog_14_method_87_code tbI283
  | 0 => tb_p283_0
  | 1 => tb_p283_1
  | 2 => tb_p283_2
  | j + 3 => tb_ckP_ge (show tbI283.length ≤ 40 * (j + 3) from by rw [tb_ln283]; omega)
theorem tb_p284_0 : tb_ckP prog_14_method_88_code tbI284 0 = true := by decide +kernel
theorem tb_p284_1 : tb_ckP prog_14_method_88_code tbI284 40 = true := by decide +kernel
theorem tb_p284_2 : tb_ckP prog_14_method_88_code tbI284 80 = true := by decide +kernel
theorem tb_p284_3 : tb_ckP prog_14_method_88_code tbI284 120 = true := by decide +kernel
theorem tb_p284_4 : tb_ckP prog_14_method_88_code tbI284 160 = true := by decide +kernel
theorem tb_p284_5 : tb_ckP prog_14_method_88_code tbI284 200 = true := by decide +kernel
theorem tb_ln284 : tbI284.length = 209 := by decide +kernel
theorem tb_ckI_284 : tb_ckI prog_14_method_88_code tbI284
  | 0 => tb_p284_0
  | 1 => tb_p284_1
  | 2 => tb_p284_2
  | 3 => tb_p284_3
  | 4 => tb_p284_4
  | 5 => tb_p284_5
  | j + 6 => tb_ckP_ge (show tbI284.length ≤ 40 * (j + 6) from by rw [tb_ln284]; omega)
theorem tb_p285_0 : tb_ckP prog_14_method_101_code tbI285 0 = true := by decide +kernel
theorem tb_ln285 : tbI285.length = 11 := by decide +kernel
theorem tb_ckI_285 : tb_ckI prog_14_method_101_code tbI285
  | 0 => tb_p285_0
  | j + 1 => tb_ckP_ge (show tbI285.length ≤ 40 * (j + 1) from by rw [tb_ln285]; omega)
theorem tb_p286_0 : tb_ckP prog_14_method_100_code tbI286 0 = true := by decide +kernel
theorem tb_p286_1 : tb_ckP prog_14_method_100_code tbI286 40 = true := by decide +kernel
theorem tb_p286_2 : tb_ckP prog_14_method_100_code tbI286 80 = true := by decide +kernel
theorem tb_p286_3 : tb_ckP prog_14_method_100_code tbI286 120 = true := by decide +kernel
theorem tb_p286_4 : tb_ckP prog_14_method_100_code tbI286 160 = true := by decide +kernel
theorem tb_p286_5 : tb_ckP prog_14_method_100_code tbI286 200 = true := by decide +kernel
theorem tb_p286_6 : tb_ckP prog_14_method_100_code tbI286 240 = true := by decide +kernel
theorem tb_p286_7 : tb_ckP prog_14_method_100_code tbI286 280 = true := by decide +kernel
theorem tb_p286_8 : tb_ckP prog_14_method_100_code tbI286 320 = true := by decide +kernel
theorem tb_p286_9 : tb_ckP prog_14_method_100_code tbI286 360 = true := by decide +kernel
theorem tb_p286_10 : tb_ckP prog_14_method_100_code tbI286 400 = true := by decide +kernel
theorem tb_ln286 : tbI286.length = 419 := by decide +kernel
theorem tb_ckI_286 : tb_ckI prog_14_method_100_code tbI286
  | 0 => tb_p286_0
  | 1 => tb_p286_1
  | 2 => tb_p286_2
  | 3 => tb_p286_3
  | 4 => tb_p286_4
  | 5 => tb_p286_5
  | 6 => tb_p286_6
  | 7 => tb_p286_7
  | 8 => tb_p286_8
  | 9 => tb_p286_9
  | 10 => tb_p286_10
  | j + 11 => tb_ckP_ge (show tbI286.length ≤ 40 * (j + 11) from by rw [tb_ln286]; omega)
theorem tb_p287_0 : tb_ckP prog_14_method_98_code tbI287 0 = true := by decide +kernel
theorem tb_p287_1 : tb_ckP prog_14_method_98_code tbI287 40 = true := by decide +kernel
theorem tb_p287_2 : tb_ckP prog_14_method_98_code tbI287 80 = true := by decide +kernel
theorem tb_p287_3 : tb_ckP prog_14_method_98_code tbI287 120 = true := by decide +kernel
theorem tb_p287_4 : tb_ckP prog_14_method_98_code tbI287 160 = true := by decide +kernel
theorem tb_p287_5 : tb_ckP prog_14_method_98_code tbI287 200 = true := by decide +kernel
theorem tb_ln287 : tbI287.length = 204 := by decide +kernel
theorem tb_ckI_287 : tb_ckI prog_14_method_98_code tbI287
  | 0 => tb_p287_0
  | 1 => tb_p287_1
  | 2 => tb_p287_2
  | 3 => tb_p287_3
  | 4 => tb_p287_4
  | 5 => tb_p287_5
  | j + 6 => tb_ckP_ge (show tbI287.length ≤ 40 * (j + 6) from by rw [tb_ln287]; omega)
theorem tb_p288_0 : tb_ckP prog_14_method_91_code tbI288 0 = true := by decide +kernel
theorem tb_p288_1 : tb_ckP prog_14_method_91_code tbI288 40 = true := by decide +kernel
theorem tb_p288_2 : tb_ckP prog_14_method_91_code tbI288 80 = true := by decide +kernel
theorem tb_ln288 : tbI288.length = 116 := by decide +kernel
theorem tb_ckI_288 : tb_ckI prog_14_method_91_code tbI288
  | 0 => tb_p288_0
  | 1 => tb_p288_1
  | 2 => tb_p288_2
  | j + 3 => tb_ckP_ge (show tbI288.length ≤ 40 * (j + 3) from by rw [tb_ln288]; omega)
theorem tb_p289_0 : tb_ckP prog_14_method_90_code tbI289 0 = true := by decide +kernel
theorem tb_p289_1 : tb_ckP prog_14_method_90_code tbI289 40 = true := by decide +kernel
theorem tb_p289_2 : tb_ckP prog_14_method_90_code tbI289 80 = true := by decide +kernel
theorem tb_p289_3 : tb_ckP prog_14_method_90_code tbI289 120 = true := by decide +kernel
theorem tb_p289_4 : tb_ckP prog_14_method_90_code tbI289 160 = true := by decide +kernel
theorem tb_ln289 : tbI289.length = 172 := by decide +kernel
theorem tb_ckI_289 : tb_ckI prog_14_method_90_code tbI289
  | 0 => tb_p289_0
  | 1 => tb_p289_1
  | 2 => tb_p289_2
  | 3 => tb_p289_3
  | 4 => tb_p289_4
  | j + 5 => tb_ckP_ge (show tbI289.length ≤ 40 * (j + 5) from by rw [tb_ln289]; omega)
theorem tb_p290_0 : tb_ckP prog_14_method_95_code tbI290 0 = true := by decide +kernel
theorem tb_p290_1 : tb_ckP prog_14_method_95_code tbI290 40 = true := by decide +kernel
theorem tb_p290_2 : tb_ckP prog_14_method_95_code tbI290 80 = true := by decide +kernel
theorem tb_p290_3 : tb_ckP prog_14_method_95_code tbI290 120 = true := by decide +kernel
theorem tb_ln290 : tbI290.length = 123 := by decide +kernel
theorem tb_ckI_290 : tb_ckI prog_14_method_95_code tbI290
  | 0 => tb_p290_0
  | 1 => tb_p290_1
  | 2 => tb_p290_2
  | 3 => tb_p290_3
  | j + 4 => tb_ckP_ge (show tbI290.length ≤ 40 * (j + 4) from by rw [tb_ln290]; omega)
theorem tb_p291_0 : tb_ckP prog_14_method_93_code tbI291 0 = true := by decide +kernel
theorem tb_p291_1 : tb_ckP prog_14_method_93_code tbI291 40 = true := by decide +kernel
theorem tb_ln291 : tbI291.length = 45 := by decide +kernel
theorem tb_ckI_291 : tb_ckI prog_14_method_93_code tbI291
  | 0 => tb_p291_0
  | 1 => tb_p291_1
  | j + 2 => tb_ckP_ge (show tbI291.length ≤ 40 * (j + 2) from by rw [tb_ln291]; omega)
theorem tb_p292_0 : tb_ckP prog_14_method_92_code tbI292 0 = true := by decide +kernel
theorem tb_ln292 : tbI292.length = 36 := by decide +kernel
theorem tb_ckI_292 : tb_ckI prog_14_method_92_code tbI292
  | 0 => tb_p292_0
  | j + 1 => tb_ckP_ge (show tbI292.length ≤ 40 * (j + 1) from by rw [tb_ln292]; omega)
theorem tb_p293_0 : tb_ckP prog_14_method_94_code tbI293 0 = true := by decide +kernel
theorem tb_p293_1 : tb_ckP prog_14_method_94_code tbI293 40 = true := by decide +kernel
theorem tb_p293_2 : tb_ckP prog_14_method_94_code tbI293 80 = true := by decide +kernel
theorem tb_ln293 : tbI293.length = 107 := by decide +kernel
theorem tb_ckI_293 : tb_ckI prog_14_method_94_code tbI293
  | 0 => tb_p293_0
  | 1 => tb_p293_1
  | 2 => tb_p293_2
  | j + 3 => tb_ckP_ge (show tbI293.length ≤ 40 * (j + 3) from by rw [tb_ln293]; omega)
theorem tb_p294_0 : tb_ckP prog_14_method_96_code tbI294 0 = true := by decide +kernel
theorem tb_p294_1 : tb_ckP prog_14_method_96_code tbI294 40 = true := by decide +kernel
theorem tb_ln294 : tbI294.length = 70 := by decide +kernel
theorem tb_ckI_294 : tb_ckI prog_14_method_96_code tbI294
  | 0 => tb_p294_0
  | 1 => tb_p294_1
  | j + 2 => tb_ckP_ge (show tbI294.length ≤ 40 * (j + 2) from by rw [tb_ln294]; omega)
theorem tb_p295_0 : tb_ckP prog_14_method_97_code tbI295 0 = true := by decide +kernel
theorem tb_p295_1 : tb_ckP prog_14_method_97_code tbI295 40 = true := by decide +kernel
theorem tb_p295_2 : tb_ckP prog_14_method_97_code tbI295 80 = true := by decide +kernel
theorem tb_p295_3 : tb_ckP prog_14_method_97_code tbI295 120 = true := by decide +kernel
theorem tb_p295_4 : tb_ckP prog_14_method_97_code tbI295 160 = true := by decide +kernel
theorem tb_ln295 : tbI295.length = 166 := by decide +kernel
theorem tb_ckI_295 : tb_ckI prog_14_method_97_code tbI295
  | 0 => tb_p295_0
  | 1 => tb_p295_1
  | 2 => tb_p295_2
  | 3 => tb_p295_3
  | 4 => tb_p295_4
  | j + 5 => tb_ckP_ge (show tbI295.length ≤ 40 * (j + 5) from by rw [tb_ln295]; omega)
theorem tb_p296_0 : tb_ckP prog_14_method_99_code tbI296 0 = true := by decide +kernel
theorem tb_p296_1 : tb_ckP prog_14_method_99_code tbI296 40 = true := by decide +kernel
theorem tb_p296_2 : tb_ckP prog_14_method_99_code tbI296 80 = true := by decide +kernel
theorem tb_p296_3 : tb_ckP prog_14_method_99_code tbI296 120 = true := by decide +kernel
theorem tb_ln296 : tbI296.length = 124 := by decide +kernel
theorem tb_ckI_296 : tb_ckI prog_14_method_99_code tbI296
  | 0 => tb_p296_0
  | 1 => tb_p296_1
  | 2 => tb_p296_2
  | 3 => tb_p296_3
  | j + 4 => tb_ckP_ge (show tbI296.length ≤ 40 * (j + 4) from by rw [tb_ln296]; omega)
theorem tb_p297_0 : tb_ckP prog_14_method_102_code tbI297 0 = true := by decide +kernel
theorem tb_ln297 : tbI297.length = 11 := by decide +kernel
theorem tb_ckI_297 : tb_ckI prog_14_method_102_code tbI297
  | 0 => tb_p297_0
  | j + 1 => tb_ckP_ge (show tbI297.length ≤ 40 * (j + 1) from by rw [tb_ln297]; omega)
theorem tb_p298_0 : tb_ckP prog_14_method_103_code tbI298 0 = true := by decide +kernel
theorem tb_p298_1 : tb_ckP prog_14_method_103_code tbI298 40 = true := by decide +kernel
theorem tb_p298_2 : tb_ckP prog_14_method_103_code tbI298 80 = true := by decide +kernel
theorem tb_ln298 : tbI298.length = 99 := by decide +kernel
theorem tb_ckI_298 : tb_ckI prog_14_method_103_code tbI298
  | 0 => tb_p298_0
  | 1 => tb_p298_1
  | 2 => tb_p298_2
  | j + 3 => tb_ckP_ge (show tbI298.length ≤ 40 * (j + 3) from by rw [tb_ln298]; omega)
theorem tb_p299_0 : tb_ckP prog_14_method_104_code tbI299 0 = true := by decide +kernel
theorem tb_p299_1 : tb_ckP prog_14_method_104_code tbI299 40 = true := by decide +kernel
theorem tb_ln299 : tbI299.length = 42 := by decide +kernel
theorem tb_ckI_299 : tb_ckI prog_14_method_104_code tbI299
  | 0 => tb_p299_0
  | 1 => tb_p299_1
  | j + 2 => tb_ckP_ge (show tbI299.length ≤ 40 * (j + 2) from by rw [tb_ln299]; omega)
theorem tb_p300_0 : tb_ckP prog_14_method_105_code tbI300 0 = true := by decide +kernel
theorem tb_ln300 : tbI300.length = 28 := by decide +kernel
theorem tb_ckI_300 : tb_ckI prog_14_method_105_code tbI300
  | 0 => tb_p300_0
  | j + 1 => tb_ckP_ge (show tbI300.length ≤ 40 * (j + 1) from by rw [tb_ln300]; omega)
theorem tb_p301_0 : tb_ckP prog_14_method_106_code tbI301 0 = true := by decide +kernel
theorem tb_p301_1 : tb_ckP prog_14_method_106_code tbI301 40 = true := by decide +kernel
theorem tb_ln301 : tbI301.length = 61 := by decide +kernel
theorem tb_ckI_301 : tb_ckI prog_14_method_106_code tbI301
  | 0 => tb_p301_0
  | 1 => tb_p301_1
  | j + 2 => tb_ckP_ge (show tbI301.length ≤ 40 * (j + 2) from by rw [tb_ln301]; omega)
theorem tb_p302_0 : tb_ckP prog_19_method_65_code tbI302 0 = true := by decide +kernel
theorem tb_ln302 : tbI302.length = 11 := by decide +kernel
theorem tb_ckI_302 : tb_ckI prog_19_method_65_code tbI302
  | 0 => tb_p302_0
  | j + 1 => tb_ckP_ge (show tbI302.length ≤ 40 * (j + 1) from by rw [tb_ln302]; omega)
theorem tb_p303_0 : tb_ckP prog_19_method_69_code tbI303 0 = true := by decide +kernel
theorem tb_ln303 : tbI303.length = 11 := by decide +kernel
theorem tb_ckI_303 : tb_ckI prog_19_method_69_code tbI303
  | 0 => tb_p303_0
  | j + 1 => tb_ckP_ge (show tbI303.length ≤ 40 * (j + 1) from by rw [tb_ln303]; omega)
theorem tb_p304_0 : tb_ckP prog_24_method_123_code tbI304 0 = true := by decide +kernel
theorem tb_ln304 : tbI304.length = 33 := by decide +kernel
theorem tb_ckI_304 : tb_ckI prog_24_method_123_code tbI304
  | 0 => tb_p304_0
  | j + 1 => tb_ckP_ge (show tbI304.length ≤ 40 * (j + 1) from by rw [tb_ln304]; omega)
theorem tb_p305_0 : tb_ckP prog_24_method_101_code tbI305 0 = true := by decide +kernel
theorem tb_ln305 : tbI305.length = 23 := by decide +kernel
theorem tb_ckI_305 : tb_ckI prog_24_method_101_code tbI305
  | 0 => tb_p305_0
  | j + 1 => tb_ckP_ge (show tbI305.length ≤ 40 * (j + 1) from by rw [tb_ln305]; omega)
theorem tb_p306_0 : tb_ckP prog_18_method_49_code tbI306 0 = true := by decide +kernel
theorem tb_ln306 : tbI306.length = 26 := by decide +kernel
theorem tb_ckI_306 : tb_ckI prog_18_method_49_code tbI306
  | 0 => tb_p306_0
  | j + 1 => tb_ckP_ge (show tbI306.length ≤ 40 * (j + 1) from by rw [tb_ln306]; omega)
theorem tb_p307_0 : tb_ckP prog_17_method_48_code tbI307 0 = true := by decide +kernel
theorem tb_p307_1 : tb_ckP prog_17_method_48_code tbI307 40 = true := by decide +kernel
theorem tb_ln307 : tbI307.length = 80 := by decide +kernel
theorem tb_ckI_307 : tb_ckI prog_17_method_48_code tbI307
  | 0 => tb_p307_0
  | 1 => tb_p307_1
  | j + 2 => tb_ckP_ge (show tbI307.length ≤ 40 * (j + 2) from by rw [tb_ln307]; omega)
theorem tb_p308_0 : tb_ckP prog_18_method_48_code tbI308 0 = true := by decide +kernel
theorem tb_ln308 : tbI308.length = 26 := by decide +kernel
theorem tb_ckI_308 : tb_ckI prog_18_method_48_code tbI308
  | 0 => tb_p308_0
  | j + 1 => tb_ckP_ge (show tbI308.length ≤ 40 * (j + 1) from by rw [tb_ln308]; omega)
theorem tb_p309_0 : tb_ckP prog_17_method_47_code tbI309 0 = true := by decide +kernel
theorem tb_p309_1 : tb_ckP prog_17_method_47_code tbI309 40 = true := by decide +kernel
theorem tb_ln309 : tbI309.length = 79 := by decide +kernel
theorem tb_ckI_309 : tb_ckI prog_17_method_47_code tbI309
  | 0 => tb_p309_0
  | 1 => tb_p309_1
  | j + 2 => tb_ckP_ge (show tbI309.length ≤ 40 * (j + 2) from by rw [tb_ln309]; omega)
theorem tb_p310_0 : tb_ckP prog_24_method_103_code tbI310 0 = true := by decide +kernel
theorem tb_ln310 : tbI310.length = 21 := by decide +kernel
theorem tb_ckI_310 : tb_ckI prog_24_method_103_code tbI310
  | 0 => tb_p310_0
  | j + 1 => tb_ckP_ge (show tbI310.length ≤ 40 * (j + 1) from by rw [tb_ln310]; omega)
