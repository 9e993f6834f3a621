theorem tb_p289_0 : tb_ckP prog_14_method_98_code tbI289 0 = true := by decide +kernel
theorem tb_p289_1 : tb_ckP prog_14_method_98_code tbI289 40 = true := by decide +kernel
theorem tb_p289_2 : tb_ckP prog_14_method_98_code tbI289 80 = true := by decide +kernel
theorem tb_p289_3 : tb_ckP prog_14_method_98_code tbI289 120 = true := by decide +kernel
theorem tb_p289_4 : tb_ckP prog_14_method_98_code tbI289 160 = true := by decide +kernel
theorem tb_p289_5 : tb_ckP prog_14_method_98_code tbI289 200 = true := by decide +kernel
theorem tb_ckI_289 : tb_ckI prog_14_method_98_code tbI289
  | 0 => tb_p289_0
  | 1 => tb_p289_1
  | 2 => tb_p289_2
  | 3 => tb_p289_3
  | 4 => tb_p289_4
  | 5 => tb_p289_5
  | j + 6 => tb_ckP_ge (show tbI289.length ≤ 40 * (j + 6) from by rw [show tbI289.length = 204 from rfl]; omega)
theorem tb_p290_0 : tb_ckP prog_14_method_91_code tbI290 0 = true := by decide +kernel
theorem tb_p290_1 : tb_ckP prog_14_method_91_code tbI290 40 = true := by decide +kernel
theorem tb_p290_2 : tb_ckP prog_14_method_91_code tbI290 80 = true := by decide +kernel
theorem tb_ckI_290 : tb_ckI prog_14_method_91_code tbI290
  | 0 => tb_p290_0
  | 1 => tb_p290_1
  | 2 => tb_p290_2
  | j + 3 => tb_ckP_ge (show tbI290.length ≤ 40 * (j + 3) from by rw [show tbI290.length = 116 from rfl]; omega)
theorem tb_p291_0 : tb_ckP prog_14_method_90_code tbI291 0 = true := by decide +kernel
theorem tb_p291_1 : tb_ckP prog_14_method_90_code tbI291 40 = true := by decide +kernel
theorem tb_p291_2 : tb_ckP prog_14_method_90_code tbI291 80 = true := by decide +kernel
theorem tb_p291_3 : tb_ckP prog_14_method_90_code tbI291 120 = true := by decide +kernel
theorem tb_p291_4 : tb_ckP prog_14_method_90_code tbI291 160 = true := by decide +kernel
theorem tb_ckI_291 : tb_ckI prog_14_method_90_code tbI291
  | 0 => tb_p291_0
  | 1 => tb_p291_1
  | 2 => tb_p291_2
  | 3 => tb_p291_3
  | 4 => tb_p291_4
  | j + 5 => tb_ckP_ge (show tbI291.length ≤ 40 * (j + 5) from by rw [show tbI291.length = 172 from rfl]; omega)
theorem tb_p292_0 : tb_ckP prog_14_method_95_code tbI292 0 = true := by decide +kernel
theorem tb_p292_1 : tb_ckP prog_14_method_95_code tbI292 40 = true := by decide +kernel
theorem tb_p292_2 : tb_ckP prog_14_method_95_code tbI292 80 = true := by decide +kernel
theorem tb_p292_3 : tb_ckP prog_14_method_95_code tbI292 120 = true := by decide +kernel
theorem tb_ckI_292 : tb_ckI prog_14_method_95_code tbI292
  | 0 => tb_p292_0
  | 1 => tb_p292_1
  | 2 => tb_p292_2
  | 3 => tb_p292_3
  | j + 4 => tb_ckP_ge (show tbI292.length ≤ 40 * (j + 4) from by rw [show tbI292.length = 123 from rfl]; omega)
theorem tb_p293_0 : tb_ckP prog_14_method_93_code tbI293 0 = true := by decide +kernel
theorem tb_p293_1 : tb_ckP prog_14_method_93_code tbI293 40 = true := by decide +kernel
theorem tb_ckI_293 : tb_ckI prog_14_method_93_code tbI293
  | 0 => tb_p293_0
  | 1 => tb_p293_1
  | j + 2 => tb_ckP_ge (show tbI293.length ≤ 40 * (j + 2) from by rw [show tbI293.length = 45 from rfl]; omega)
theorem tb_p294_0 : tb_ckP prog_14_method_92_code tbI294 0 = true := by decide +kernel
theorem tb_ckI_294 : tb_ckI prog_14_method_92_code tbI294
  | 0 => tb_p294_0
  | j + 1 => tb_ckP_ge (show tbI294.length ≤ 40 * (j + 1) from by rw [show tbI294.length = 36 from rfl]; omega)
theorem tb_p295_0 : tb_ckP prog_14_method_94_code tbI295 0 = true := by decide +kernel
theorem tb_p295_1 : tb_ckP prog_14_method_94_code tbI295 40 = true := by decide +kernel
theorem tb_p295_2 : tb_ckP prog_14_method_94_code tbI295 80 = true := by decide +kernel
theorem tb_ckI_295 : tb_ckI prog_14_method_94_code tbI295
  | 0 => tb_p295_0
  | 1 => tb_p295_1
  | 2 => tb_p295_2
  | j + 3 => tb_ckP_ge (show tbI295.length ≤ 40 * (j + 3) from by rw [show tbI295.length = 107 from rfl]; omega)
theorem tb_p296_0 : tb_ckP prog_14_method_96_code tbI296 0 = true := by decide +kernel
theorem tb_p296_1 : tb_ckP prog_14_method_96_code tbI296 40 = true := by decide +kernel
theorem tb_ckI_296 : tb_ckI prog_14_method_96_code tbI296
  | 0 => tb_p296_0
  | 1 => tb_p296_1
  | j + 2 => tb_ckP_ge (show tbI296.length ≤ 40 * (j + 2) from by rw [show tbI296.length = 70 from rfl]; omega)
theorem tb_p297_0 : tb_ckP prog_14_method_97_code tbI297 0 = true := by decide +kernel
theorem tb_p297_1 : tb_ckP prog_14_method_97_code tbI297 40 = true := by decide +kernel
theorem tb_p297_2 : tb_ckP prog_14_method_97_code tbI297 80 = true := by decide +kernel
theorem tb_p297_3 : tb_ckP prog_14_method_97_code tbI297 120 = true := by decide +kernel
theorem tb_p297_4 : tb_ckP prog_14_method_97_code tbI297 160 = true := by decide +kernel
theorem tb_ckI_297 : tb_ckI prog_14_method_97_code tbI297
  | 0 => tb_p297_0
  | 1 => tb_p297_1
  | 2 => tb_p297_2
  | 3 => tb_p297_3
  | 4 => tb_p297_4
  | j + 5 => tb_ckP_ge (show tbI297.length ≤ 40 * (j + 5) from by rw [show tbI297.length = 166 from rfl]; omega)
theorem tb_p298_0 : tb_ckP prog_14_method_99_code tbI298 0 = true := by decide +kernel
theorem tb_p298_1 : tb_ckP prog_14_method_99_code tbI298 40 = true := by decide +kernel
theorem tb_p298_2 : tb_ckP prog_14_method_99_code tbI298 80 = true := by decide +kernel
theorem tb_p298_3 : tb_ckP prog_14_method_99_code tbI298 120 = true := by decide +kernel
theorem tb_ckI_298 : tb_ckI prog_14_method_99_code tbI298
  | 0 => tb_p298_0
  | 1 => tb_p298_1
  | 2 => tb_p298_2
  | 3 => tb_p298_3
  | j + 4 => tb_ckP_ge (show tbI298.length ≤ 40 * (j + 4) from by rw [show tbI298.length = 124 from rfl]; omega)
theorem tb_p299_0 : tb_ckP prog_14_method_102_code tbI299 0 = true := by decide +kernel
theorem tb_ckI_299 : tb_ckI prog_14_method_102_code tbI299
  | 0 => tb_p299_0
  | j + 1 => tb_ckP_ge (show tbI299.length ≤ 40 * (j + 1) from by rw [show tbI299.length = 11 from rfl]; omega)
theorem tb_p300_0 : tb_ckP prog_14_method_103_code tbI300 0 = true := by decide +kernel
theorem tb_p300_1 : tb_ckP prog_14_method_103_code tbI300 40 = true := by decide +kernel
theorem tb_p300_2 : tb_ckP prog_14_method_103_code tbI300 80 = true := by decide +kernel
theorem tb_ckI_300 : tb_ckI prog_14_method_103_code tbI300
  | 0 => tb_p300_0
  | 1 => tb_p300_1
  | 2 => tb_p300_2
  | j + 3 => tb_ckP_ge (show tbI300.length ≤ 40 * (j + 3) from by rw [show tbI300.length = 99 from rfl]; omega)
theorem tb_p301_0 : tb_ckP prog_14_method_104_code tbI301 0 = true := by decide +kernel
theorem tb_p301_1 : tb_ckP prog_14_method_104_code tbI301 40 = true := by decide +kernel
theorem tb_ckI_301 : tb_ckI prog_14_method_104_code tbI301
  | 0 => tb_p301_0
  | 1 => tb_p301_1
  | j + 2 => tb_ckP_ge (show tbI301.length ≤ 40 * (j + 2) from by rw [show tbI301.length = 42 from rfl]; omega)
theorem tb_p302_0 : tb_ckP prog_14_method_105_code tbI302 0 = true := by decide +kernel
theorem tb_ckI_302 : tb_ckI prog_14_method_105_code tbI302
  | 0 => tb_p302_0
  | j + 1 => tb_ckP_ge (show tbI302.length ≤ 40 * (j + 1) from by rw [show tbI302.length = 28 from rfl]; omega)
theorem tb_p303_0 : tb_ckP prog_14_method_106_code tbI303 0 = true := by decide +kernel
theorem tb_p303_1 : tb_ckP prog_14_method_106_code tbI303 40 = true := by decide +kernel
theorem tb_ckI_303 : tb_ckI prog_14_method_106_code tbI303
  | 0 => tb_p303_0
  | 1 => tb_p303_1
  | j + 2 => tb_ckP_ge (show tbI303.length ≤ 40 * (j + 2) from by rw [show tbI303.length = 61 from rfl]; omega)
theorem tb_p304_0 : tb_ckP prog_19_method_65_code tbI304 0 = true := by decide +kernel
theorem tb_ckI_304 : tb_ckI prog_19_method_65_code tbI304
  | 0 => tb_p304_0
  | j + 1 => tb_ckP_ge (show tbI304.length ≤ 40 * (j + 1) from by rw [show tbI304.length = 11 from rfl]; omega)
theorem tb_p305_0 : tb_ckP prog_19_method_69_code tbI305 0 = true := by decide +kernel
theorem tb_ckI_305 : tb_ckI prog_19_method_69_code tbI305
  | 0 => tb_p305_0
  | j + 1 => tb_ckP_ge (show tbI305.length ≤ 40 * (j + 1) from by rw [show tbI305.length = 11 from rfl]; omega)
theorem tb_p306_0 : tb_ckP prog_24_method_123_code tbI306 0 = true := by decide +kernel
theorem tb_ckI_306 : tb_ckI prog_24_method_123_code tbI306
  | 0 => tb_p306_0
  | j + 1 => tb_ckP_ge (show tbI306.length ≤ 40 * (j + 1) from by rw [show tbI306.length = 33 from rfl]; omega)
theorem tb_p307_0 : tb_ckP prog_24_method_101_code tbI307 0 = true := by decide +kernel
theorem tb_ckI_307 : tb_ckI prog_24_method_101_code tbI307
  | 0 => tb_p307_0
  | j + 1 => tb_ckP_ge (show tbI307.length ≤ 40 * (j + 1) from by rw [show tbI307.length = 23 from rfl]; omega)
theorem tb_p308_0 : tb_ckP prog_18_method_49_code tbI308 0 = true := by decide +kernel
theorem tb_ckI_308 : tb_ckI prog_18_method_49_code tbI308
  | 0 => tb_p308_0
  | j + 1 => tb_ckP_ge (show tbI308.length ≤ 40 * (j + 1) from by rw [show tbI308.length = 26 from rfl]; omega)
theorem tb_p309_0 : tb_ckP prog_17_method_48_code tbI309 0 = true := by decide +kernel
theorem tb_p309_1 : tb_ckP prog_17_method_48_code tbI309 40 = true := by decide +kernel
theorem tb_ckI_309 : tb_ckI prog_17_method_48_code tbI309
  | 0 => tb_p309_0
  | 1 => tb_p309_1
  | j + 2 => tb_ckP_ge (show tbI309.length ≤ 40 * (j + 2) from by rw [show tbI309.length = 80 from rfl]; omega)
theorem tb_p310_0 : tb_ckP prog_18_method_48_code tbI310 0 = true := by decide +kernel
theorem tb_ckI_310 : tb_ckI prog_18_method_48_code tbI310
  | 0 => tb_p310_0
  | j + 1 => tb_ckP_ge (show tbI310.length ≤ 40 * (j + 1) from by rw [show tbI310.length = 26 from rfl]; omega)
theorem tb_p311_0 : tb_ckP prog_17_method_47_code tbI311 0 = true := by decide +kernel
theorem tb_p311_1 : tb_ckP prog_17_method_47_code tbI311 40 = true := by decide +kernel
theorem tb_ckI_311 : tb_ckI prog_17_method_47_code tbI311
  | 0 => tb_p311_0
  | 1 => tb_p311_1
  | j + 2 => tb_ckP_ge (show tbI311.length ≤ 40 * (j + 2) from by rw [show tbI311.length = 79 from rfl]; omega)
theorem tb_p312_0 : tb_ckP prog_24_method_103_code tbI312 0 = true := by decide +kernel
theorem tb_ckI_312 : tb_ckI prog_24_method_103_code tbI312
  | 0 => tb_p312_0
  | j + 1 => tb_ckP_ge (show tbI312.length ≤ 40 * (j + 1) from by rw [show tbI312.length = 21 from rfl]; omega)
