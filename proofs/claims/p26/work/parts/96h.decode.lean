theorem tb_p251_0 : tb_ckP prog_14_method_61_code tbI251 0 = true := by decide +kernel
theorem tb_p251_1 : tb_ckP prog_14_method_61_code tbI251 40 = true := by decide +kernel
theorem tb_p251_2 : tb_ckP prog_14_method_61_code tbI251 80 = true := by decide +kernel
theorem tb_p251_3 : tb_ckP prog_14_method_61_code tbI251 120 = true := by decide +kernel
theorem tb_ln251 : tbI251.length = 142 := by decide +kernel
theorem tb_ckI_251 : tb_ckI prog_14_method_61_code tbI251
  | 0 => tb_p251_0
  | 1 => tb_p251_1
  | 2 => tb_p251_2
  | 3 => tb_p251_3
  | j + 4 => tb_ckP_ge (show tbI251.length ≤ 40 * (j + 4) from by rw [tb_ln251]; omega)
theorem tb_p252_0 : tb_ckP prog_14_method_60_code tbI252 0 = true := by decide +kernel
theorem tb_p252_1 : tb_ckP prog_14_method_60_code tbI252 40 = true := by decide +kernel
theorem tb_p252_2 : tb_ckP prog_14_method_60_code tbI252 80 = true := by decide +kernel
theorem tb_p252_3 : tb_ckP prog_14_method_60_code tbI252 120 = true := by decide +kernel
theorem tb_p252_4 : tb_ckP prog_14_method_60_code tbI252 160 = true := by decide +kernel
theorem tb_p252_5 : tb_ckP prog_14_method_60_code tbI252 200 = true := by decide +kernel
theorem tb_p252_6 : tb_ckP prog_14_method_60_code tbI252 240 = true := by decide +kernel
theorem tb_ln252 : tbI252.length = 265 := by decide +kernel
theorem tb_ckI_252 : tb_ckI prog_14_method_60_code tbI252
  | 0 => tb_p252_0
  | 1 => tb_p252_1
  | 2 => tb_p252_2
  | 3 => tb_p252_3
  | 4 => tb_p252_4
  | 5 => tb_p252_5
  | 6 => tb_p252_6
  | j + 7 => tb_ckP_ge (show tbI252.length ≤ 40 * (j + 7) from by rw [tb_ln252]; omega)
theorem tb_p253_0 : tb_ckP prog_14_method_63_code tbI253 0 = true := by decide +kernel
theorem tb_p253_1 : tb_ckP prog_14_method_63_code tbI253 40 = true := by decide +kernel
theorem tb_p253_2 : tb_ckP prog_14_method_63_code tbI253 80 = true := by decide +kernel
theorem tb_p253_3 : tb_ckP prog_14_method_63_code tbI253 120 = true := by decide +kernel
theorem tb_p253_4 : tb_ckP prog_14_method_63_code tbI253 160 = true := by decide +kernel
theorem tb_p253_5 : tb_ckP prog_14_method_63_code tbI253 200 = true := by decide +kernel
theorem tb_p253_6 : tb_ckP prog_14_method_63_code tbI253 240 = true := by decide +kernel
theorem tb_p253_7 : tb_ckP prog_14_method_63_code tbI253 280 = true := by decide +kernel
theorem tb_ln253 : tbI253.length = 296 := by decide +kernel
theorem tb_ckI_253 : tb_ckI prog_14_method_63_code tbI253
  | 0 => tb_p253_0
  | 1 => tb_p253_1
  | 2 => tb_p253_2
  | 3 => tb_p253_3
  | 4 => tb_p253_4
  | 5 => tb_p253_5
  | 6 => tb_p253_6
  | 7 => tb_p253_7
  | j + 8 => tb_ckP_ge (show tbI253.length ≤ 40 * (j + 8) from by rw [tb_ln253]; omega)
theorem tb_p254_0 : tb_ckP prog_14_method_62_code tbI254 0 = true := by decide +kernel
theorem tb_p254_1 : tb_ckP prog_14_method_62_code tbI254 40 = true := by decide +kernel
theorem tb_ln254 : tbI254.length = 62 := by decide +kernel
theorem tb_ckI_254 : tb_ckI prog_14_method_62_code tbI254
  | 0 => tb_p254_0
  | 1 => tb_p254_1
  | j + 2 => tb_ckP_ge (show tbI254.length ≤ 40 * (j + 2) from by rw [tb_ln254]; omega)
theorem tb_p255_0 : tb_ckP prog_14_method_56_code tbI255 0 = true := by decide +kernel
theorem tb_p255_1 : tb_ckP prog_14_method_56_code tbI255 40 = true := by decide +kernel
theorem tb_p255_2 : tb_ckP prog_14_method_56_code tbI255 80 = true := by decide +kernel
theorem tb_p255_3 : tb_ckP prog_14_method_56_code tbI255 120 = true := by decide +kernel
theorem tb_p255_4 : tb_ckP prog_14_method_56_code tbI255 160 = true := by decide +kernel
theorem tb_p255_5 : tb_ckP prog_14_method_56_code tbI255 200 = true := by decide +kernel
theorem tb_ln255 : tbI255.length = 236 := by decide +kernel
theorem tb_ckI_255 : tb_ckI prog_14_method_56_code tbI255
  | 0 => tb_p255_0
  | 1 => tb_p255_1
  | 2 => tb_p255_2
  | 3 => tb_p255_3
  | 4 => tb_p255_4
  | 5 => tb_p255_5
  | j + 6 => tb_ckP_ge (show tbI255.length ≤ 40 * (j + 6) from by rw [tb_ln255]; omega)
theorem tb_p256_0 : tb_ckP prog_14_method_54_code tbI256 0 = true := by decide +kernel
theorem tb_p256_1 : tb_ckP prog_14_method_54_code tbI256 40 = true := by decide +kernel
theorem tb_ln256 : tbI256.length = 52 := by decide +kernel
theorem tb_ckI_256 : tb_ckI prog_14_method_54_code tbI256
  | 0 => tb_p256_0
  | 1 => tb_p256_1
  | j + 2 => tb_ckP_ge (show tbI256.length ≤ 40 * (j + 2) from by rw [tb_ln256]; omega)
theorem tb_p257_0 : tb_ckP prog_14_method_55_code tbI257 0 = true := by decide +kernel
theorem tb_p257_1 : tb_ckP prog_14_method_55_code tbI257 40 = true := by decide +kernel
theorem tb_p257_2 : tb_ckP prog_14_method_55_code tbI257 80 = true := by decide +kernel
theorem tb_ln257 : tbI257.length = 120 := by decide +kernel
theorem tb_ckI_257 : tb_ckI prog_14_method_55_code tbI257
  | 0 => tb_p257_0
  | 1 => tb_p257_1
  | 2 => tb_p257_2
  | j + 3 => tb_ckP_ge (show tbI257.length ≤ 40 * (j + 3) from by rw [tb_ln257]; omega)
theorem tb_p258_0 : tb_ckP prog_14_method_57_code tbI258 0 = true := by decide +kernel
theorem tb_p258_1 : tb_ckP prog_14_method_57_code tbI258 40 = true := by decide +kernel
theorem tb_ln258 : tbI258.length = 55 := by decide +kernel
theorem tb_ckI_258 : tb_ckI prog_14_method_57_code tbI258
  | 0 => tb_p258_0
  | 1 => tb_p258_1
  | j + 2 => tb_ckP_ge (show tbI258.length ≤ 40 * (j + 2) from by rw [tb_ln258]; omega)
theorem tb_p259_0 : tb_ckP prog_14_method_58_code tbI259 0 = true := by decide +kernel
theorem tb_p259_1 : tb_ckP prog_14_method_58_code tbI259 40 = true := by decide +kernel
theorem tb_ln259 : tbI259.length = 67 := by decide +kernel
theorem tb_ckI_259 : tb_ckI prog_14_method_58_code tbI259
  | 0 => tb_p259_0
  | 1 => tb_p259_1
  | j + 2 => tb_ckP_ge (show tbI259.length ≤ 40 * (j + 2) from by rw [tb_ln259]; omega)
theorem tb_p260_0 : tb_ckP prog_14_method_65_code tbI260 0 = true := by decide +kernel
theorem tb_p260_1 : tb_ckP prog_14_method_65_code tbI260 40 = true := by decide +kernel
theorem tb_p260_2 : tb_ckP prog_14_method_65_code tbI260 80 = true := by decide +kernel
theorem tb_ln260 : tbI260.length = 108 := by decide +kernel
theorem tb_ckI_260 : tb_ckI prog_14_method_65_code tbI260
  | 0 => tb_p260_0
  | 1 => tb_p260_1
  | 2 => tb_p260_2
  | j + 3 => tb_ckP_ge (show tbI260.length ≤ 40 * (j + 3) from by rw [tb_ln260]; omega)
theorem tb_p261_0 : tb_ckP prog_14_method_47_code tbI261 0 = true := by decide +kernel
theorem tb_ln261 : tbI261.length = 5 := by decide +kernel
theorem tb_ckI_261 : tb_ckI prog_14_method_47_code tbI261
  | 0 => tb_p261_0
  | j + 1 => tb_ckP_ge (show tbI261.length ≤ 40 * (j + 1) from by rw [tb_ln261]; omega)
theorem tb_p262_0 : tb_ckP prog_14_method_48_code tbI262 0 = true := by decide +kernel
theorem tb_p262_1 : tb_ckP prog_14_method_48_code tbI262 40 = true := by decide +kernel
theorem tb_p262_2 : tb_ckP prog_14_method_48_code tbI262 80 = true := by decide +kernel
theorem tb_ln262 : tbI262.length = 96 := by decide +kernel
theorem tb_ckI_262 : tb_ckI prog_14_method_48_code tbI262
  | 0 => tb_p262_0
  | 1 => tb_p262_1
  | 2 => tb_p262_2
  | j + 3 => tb_ckP_ge (show tbI262.length ≤ 40 * (j + 3) from by rw [tb_ln262]; omega)
theorem tb_p263_0 : tb_ckP prog_14_method_69_code tbI263 0 = true := by decide +kernel
theorem tb_p263_1 : tb_ckP prog_14_method_69_code tbI263 40 = true := by decide +kernel
theorem tb_p263_2 : tb_ckP prog_14_method_69_code tbI263 80 = true := by decide +kernel
theorem tb_p263_3 : tb_ckP prog_14_method_69_code tbI263 120 = true := by decide +kernel
theorem tb_p263_4 : tb_ckP prog_14_method_69_code tbI263 160 = true := by decide +kernel
theorem tb_p263_5 : tb_ckP prog_14_method_69_code tbI263 200 = true := by decide +kernel
theorem tb_p263_6 : tb_ckP prog_14_method_69_code tbI263 240 = true := by decide +kernel
theorem tb_p263_7 : tb_ckP prog_14_method_69_code tbI263 280 = true := by decide +kernel
theorem tb_ln263 : tbI263.length = 298 := by decide +kernel
theorem tb_ckI_263 : tb_ckI prog_14_method_69_code tbI263
  | 0 => tb_p263_0
  | 1 => tb_p263_1
  | 2 => tb_p263_2
  | 3 => tb_p263_3
  | 4 => tb_p263_4
  | 5 => tb_p263_5
  | 6 => tb_p263_6
  | 7 => tb_p263_7
  | j + 8 => tb_ckP_ge (show tbI263.length ≤ 40 * (j + 8) from by rw [tb_ln263]; omega)
theorem tb_p264_0 : tb_ckP prog_14_method_67_code tbI264 0 = true := by decide +kernel
theorem tb_ln264 : tbI264.length = 14 := by decide +kernel
theorem tb_ckI_264 : tb_ckI prog_14_method_67_code tbI264
  | 0 => tb_p264_0
  | j + 1 => tb_ckP_ge (show tbI264.length ≤ 40 * (j + 1) from by rw [tb_ln264]; omega)
theorem tb_p265_0 : tb_ckP prog_14_method_68_code tbI265 0 = true := by decide +kernel
theorem tb_ln265 : tbI265.length = 15 := by decide +kernel
theorem tb_ckI_265 : tb_ckI prog_14_method_68_code tbI265
  | 0 => tb_p265_0
  | j + 1 => tb_ckP_ge (show tbI265.length ≤ 40 * (j + 1) from by rw [tb_ln265]; omega)
theorem tb_p266_0 : tb_ckP prog_14_method_71_code tbI266 0 = true := by decide +kernel
theorem tb_p266_1 : tb_ckP prog_14_method_71_code tbI266 40 = true := by decide +kernel
theorem tb_p266_2 : tb_ckP prog_14_method_71_code tbI266 80 = true := by decide +kernel
theorem tb_p266_3 : tb_ckP prog_14_method_71_code tbI266 120 = true := by decide +kernel
theorem tb_ln266 : tbI266.length = 149 := by decide +kernel
theorem tb_ckI_266 : tb_ckI prog_14_method_71_code tbI266
  | 0 => tb_p266_0
  | 1 => tb_p266_1
  | 2 => tb_p266_2
  | 3 => tb_p266_3
  | j + 4 => tb_ckP_ge (show tbI266.length ≤ 40 * (j + 4) from by rw [tb_ln266]; omega)
theorem tb_p267_0 : tb_ckP prog_14_method_70_code tbI267 0 = true := by decide +kernel
theorem tb_ln267 : tbI267.length = 14 := by decide +kernel
theorem tb_ckI_267 : tb_ckI prog_14_method_70_code tbI267
  | 0 => tb_p267_0
  | j + 1 => tb_ckP_ge (show tbI267.length ≤ 40 * (j + 1) from by rw [tb_ln267]; omega)
theorem tb_p268_0 : tb_ckP prog_14_method_72_code tbI268 0 = true := by decide +kernel
theorem tb_ln268 : tbI268.length = 6 := by decide +kernel
theorem tb_ckI_268 : tb_ckI prog_14_method_72_code tbI268
  | 0 => tb_p268_0
  | j + 1 => tb_ckP_ge (show tbI268.length ≤ 40 * (j + 1) from by rw [tb_ln268]; omega)
theorem tb_p269_0 : tb_ckP prog_14_method_73_code tbI269 0 = true := by decide +kernel
theorem tb_p269_1 : tb_ckP prog_14_method_73_code tbI269 40 = true := by decide +kernel
theorem tb_p269_2 : tb_ckP prog_14_method_73_code tbI269 80 = true := by decide +kernel
theorem tb_p269_3 : tb_ckP prog_14_method_73_code tbI269 120 = true := by decide +kernel
theorem tb_ln269 : tbI269.length = 133 := by decide +kernel
theorem tb_ckI_269 : tb_ckI prog_14_method_73_code tbI269
  | 0 => tb_p269_0
  | 1 => tb_p269_1
  | 2 => tb_p269_2
  | 3 => tb_p269_3
  | j + 4 => tb_ckP_ge (show tbI269.length ≤ 40 * (j + 4) from by rw [tb_ln269]; omega)
theorem tb_p270_0 : tb_ckP prog_14_method_74_code tbI270 0 = true := by decide +kernel
theorem tb_p270_1 : tb_ckP prog_14_method_74_code tbI270 40 = true := by decide +kernel
theorem tb_ln270 : tbI270.length = 69 := by decide +kernel
theorem tb_ckI_270 : tb_ckI prog_14_method_74_code tbI270
  | 0 => tb_p270_0
  | 1 => tb_p270_1
  | j + 2 => tb_ckP_ge (show tbI270.length ≤ 40 * (j + 2) from by rw [tb_ln270]; omega)
theorem tb_p271_0 : tb_ckP prog_14_method_75_code tbI271 0 = true := by decide +kernel
theorem tb_p271_1 : tb_ckP prog_14_method_75_code tbI271 40 = true := by decide +kernel
theorem tb_p271_2 : tb_ckP prog_14_method_75_code tbI271 80 = true := by decide +kernel
theorem tb_p271_3 : tb_ckP prog_14_method_75_code tbI271 120 = true := by decide +kernel
theorem tb_p271_4 : tb_ckP prog_14_method_75_code tbI271 160 = true := by decide +kernel
theorem tb_p271_5 : tb_ckP prog_14_method_75_code tbI271 200 = true := by decide +kernel
theorem tb_ln271 : tbI271.length = 205 := by decide +kernel
theorem tb_ckI_271 : tb_ckI prog_14_method_75_code tbI271
  | 0 => tb_p271_0
  | 1 => tb_p271_1
  | 2 => tb_p271_2
  | 3 => tb_p271_3
  | 4 => tb_p271_4
  | 5 => tb_p271_5
  | j + 6 => tb_ckP_ge (show tbI271.length ≤ 40 * (j + 6) from by rw [tb_ln271]; omega)
theorem tb_p272_0 : tb_ckP prog_14_method_76_code tbI272 0 = true := by decide +kernel
theorem tb_p272_1 : tb_ckP prog_14_method_76_code tbI272 40 = true := by decide +kernel
theorem tb_p272_2 : tb_ckP prog_14_method_76_code tbI272 80 = true := by decide +kernel
theorem tb_ln272 : tbI272.length = 99 := by decide +kernel
theorem tb_ckI_272 : tb_ckI prog_14_method_76_code tbI272
  | 0 => tb_p272_0
  | 1 => tb_p272_1
  | 2 => tb_p272_2
  | j + 3 => tb_ckP_ge (show tbI272.length ≤ 40 * (j + 3) from by rw [tb_ln272]; omega)
theorem tb_p273_0 : tb_ckP prog_14_method_77_code tbI273 0 = true := by decide +kernel
theorem tb_p273_1 : tb_ckP prog_14_method_77_code tbI273 40 = true := by decide +kernel
theorem tb_ln273 : tbI273.length = 79 := by decide +kernel
theorem tb_ckI_273 : tb_ckI prog_14_method_77_code tbI273
  | 0 => tb_p273_0
  | 1 => tb_p273_1
  | j + 2 => tb_ckP_ge (show tbI273.length ≤ 40 * (j + 2) from by rw [tb_ln273]; omega)
theorem tb_p274_0 : tb_ckP prog_14_method_78_code tbI274 0 = true := by decide +kernel
theorem tb_p274_1 : tb_ckP prog_14_method_78_code tbI274 40 = true := by decide +kernel
theorem tb_p274_2 : tb_ckP prog_14_method_78_code tbI274 80 = true := by decide +kernel
theorem tb_ln274 : tbI274.length = 106 := by decide +kernel
theorem tb_ckI_274 : tb_ckI prog_14_method_78_code tbI274
  | 0 => tb_p274_0
  | 1 => tb_p274_1
  | 2 => tb_p274_2
  | j + 3 => tb_ckP_ge (show tbI274.length ≤ 40 * (j + 3) from by rw [tb_ln274]; omega)
theorem tb_p275_0 : tb_ckP prog_14_method_81_code tbI275 0 = true := by decide +kernel
theorem tb_ln275 : tbI275.length = 8 := by decide +kernel
theorem tb_ckI_275 : tb_ckI prog_14_method_81_code tbI275
  | 0 => tb_p275_0
  | j + 1 => tb_ckP_ge (show tbI275.length ≤ 40 * (j + 1) from by rw [tb_ln275]; omega)
theorem tb_p276_0 : tb_ckP prog_14_method_80_code tbI276 0 = true := by decide +kernel
theorem tb_p276_1 : tb_ckP prog_14_method_80_code tbI276 40 = true := by decide +kernel
theorem tb_ln276 : tbI276.length = 70 := by decide +kernel
theorem tb_ckI_276 : tb_ckI prog_14_method_80_code tbI276
  | 0 => tb_p276_0
  | 1 => tb_p276_1
  | j + 2 => tb_ckP_ge (show tbI276.length ≤ 40 * (j + 2) from by rw [tb_ln276]; omega)
theorem tb_p277_0 : tb_ckP prog_14_method_82_code tbI277 0 = true := by decide +kernel
theorem tb_ln277 : tbI277.length = 16 := by decide +kernel
theorem tb_ckI_277 : tb_ckI prog_14_method_82_code tbI277
  | 0 => tb_p277_0
  | j + 1 => tb_ckP_ge (show tbI277.length ≤ 40 * (j + 1) from by rw [tb_ln277]; omega)
theorem tb_p278_0 : tb_ckP prog_14_method_83_code tbI278 0 = true := by decide +kernel
theorem tb_p278_1 : tb_ckP prog_14_method_83_code tbI278 40 = true := by decide +kernel
theorem tb_p278_2 : tb_ckP prog_14_method_83_code tbI278 80 = true := by decide +kernel
theorem tb_ln278 : tbI278.length = 93 := by decide +kernel
theorem tb_ckI_278 : tb_ckI prog_14_method_83_code tbI278
  | 0 => tb_p278_0
  | 1 => tb_p278_1
  | 2 => tb_p278_2
  | j + 3 => tb_ckP_ge (show tbI278.length ≤ 40 * (j + 3) from by rw [tb_ln278]; omega)
theorem tb_p279_0 : tb_ckP prog_14_method_84_code tbI279 0 = true := by decide +kernel
theorem tb_ln279 : tbI279.length = 9 := by decide +kernel
theorem tb_ckI_279 : tb_ckI prog_14_method_84_code tbI279
  | 0 => tb_p279_0
  | j + 1 => tb_ckP_ge (show tbI279.length ≤ 40 * (j + 1) from by rw [tb_ln279]; omega)
