theorem tb_p246_0 : tb_ckP prog_14_method_52_code tbI246 0 = true := by decide +kernel
theorem tb_p246_1 : tb_ckP prog_14_method_52_code tbI246 40 = true := by decide +kernel
theorem tb_p246_2 : tb_ckP prog_14_method_52_code tbI246 80 = true := by decide +kernel
theorem tb_p246_3 : tb_ckP prog_14_method_52_code tbI246 120 = true := by decide +kernel
theorem tb_p246_4 : tb_ckP prog_14_method_52_code tbI246 160 = true := by decide +kernel
theorem tb_p246_5 : tb_ckP prog_14_method_52_code tbI246 200 = true := by decide +kernel
theorem tb_ckI_246 : tb_ckI prog_14_method_52_code tbI246
  | 0 => tb_p246_0
  | 1 => tb_p246_1
  | 2 => tb_p246_2
  | 3 => tb_p246_3
  | 4 => tb_p246_4
  | 5 => tb_p246_5
  | j + 6 => tb_ckP_ge (show tbI246.length ≤ 40 * (j + 6) from by rw [show tbI246.length = 201 from rfl]; omega)
theorem tb_p247_0 : tb_ckP prog_14_method_50_code tbI247 0 = true := by decide +kernel
theorem tb_p247_1 : tb_ckP prog_14_method_50_code tbI247 40 = true := by decide +kernel
theorem tb_p247_2 : tb_ckP prog_14_method_50_code tbI247 80 = true := by decide +kernel
theorem tb_p247_3 : tb_ckP prog_14_method_50_code tbI247 120 = true := by decide +kernel
theorem tb_ckI_247 : tb_ckI prog_14_method_50_code tbI247
  | 0 => tb_p247_0
  | 1 => tb_p247_1
  | 2 => tb_p247_2
  | 3 => tb_p247_3
  | j + 4 => tb_ckP_ge (show tbI247.length ≤ 40 * (j + 4) from by rw [show tbI247.length = 144 from rfl]; omega)
theorem tb_p248_0 : tb_ckP prog_14_method_49_code tbI248 0 = true := by decide +kernel
theorem tb_p248_1 : tb_ckP prog_14_method_49_code tbI248 40 = true := by decide +kernel
theorem tb_ckI_248 : tb_ckI prog_14_method_49_code tbI248
  | 0 => tb_p248_0
  | 1 => tb_p248_1
  | j + 2 => tb_ckP_ge (show tbI248.length ≤ 40 * (j + 2) from by rw [show tbI248.length = 52 from rfl]; omega)
theorem tb_p249_0 : tb_ckP prog_14_method_51_code tbI249 0 = true := by decide +kernel
theorem tb_p249_1 : tb_ckP prog_14_method_51_code tbI249 40 = true := by decide +kernel
theorem tb_p249_2 : tb_ckP prog_14_method_51_code tbI249 80 = true := by decide +kernel
theorem tb_ckI_249 : tb_ckI prog_14_method_51_code tbI249
  | 0 => tb_p249_0
  | 1 => tb_p249_1
  | 2 => tb_p249_2
  | j + 3 => tb_ckP_ge (show tbI249.length ≤ 40 * (j + 3) from by rw [show tbI249.length = 108 from rfl]; omega)
theorem tb_p250_0 : tb_ckP prog_14_method_89_code tbI250 0 = true := by decide +kernel
theorem tb_p250_1 : tb_ckP prog_14_method_89_code tbI250 40 = true := by decide +kernel
theorem tb_ckI_250 : tb_ckI prog_14_method_89_code tbI250
  | 0 => tb_p250_0
  | 1 => tb_p250_1
  | j + 2 => tb_ckP_ge (show tbI250.length ≤ 40 * (j + 2) from by rw [show tbI250.length = 55 from rfl]; omega)
theorem tb_p251_0 : tb_ckP prog_14_method_64_code tbI251 0 = true := by decide +kernel
theorem tb_p251_1 : tb_ckP prog_14_method_64_code tbI251 40 = true := by decide +kernel
theorem tb_p251_2 : tb_ckP prog_14_method_64_code tbI251 80 = true := by decide +kernel
theorem tb_p251_3 : tb_ckP prog_14_method_64_code tbI251 120 = true := by decide +kernel
theorem tb_p251_4 : tb_ckP prog_14_method_64_code tbI251 160 = true := by decide +kernel
theorem tb_p251_5 : tb_ckP prog_14_method_64_code tbI251 200 = true := by decide +kernel
theorem tb_p251_6 : tb_ckP prog_14_method_64_code tbI251 240 = true := by decide +kernel
theorem tb_ckI_251 : tb_ckI prog_14_method_64_code tbI251
  | 0 => tb_p251_0
  | 1 => tb_p251_1
  | 2 => tb_p251_2
  | 3 => tb_p251_3
  | 4 => tb_p251_4
  | 5 => tb_p251_5
  | 6 => tb_p251_6
  | j + 7 => tb_ckP_ge (show tbI251.length ≤ 40 * (j + 7) from by rw [show tbI251.length = 257 from rfl]; omega)
theorem tb_p252_0 : tb_ckP prog_14_method_59_code tbI252 0 = true := by decide +kernel
theorem tb_p252_1 : tb_ckP prog_14_method_59_code tbI252 40 = true := by decide +kernel
theorem tb_p252_2 : tb_ckP prog_14_method_59_code tbI252 80 = true := by decide +kernel
theorem tb_ckI_252 : tb_ckI prog_14_method_59_code tbI252
  | 0 => tb_p252_0
  | 1 => tb_p252_1
  | 2 => tb_p252_2
  | j + 3 => tb_ckP_ge (show tbI252.length ≤ 40 * (j + 3) from by rw [show tbI252.length = 118 from rfl]; omega)
theorem tb_p253_0 : tb_ckP prog_14_method_61_code tbI253 0 = true := by decide +kernel
theorem tb_p253_1 : tb_ckP prog_14_method_61_code tbI253 40 = true := by decide +kernel
theorem tb_p253_2 : tb_ckP prog_14_method_61_code tbI253 80 = true := by decide +kernel
theorem tb_p253_3 : tb_ckP prog_14_method_61_code tbI253 120 = true := by decide +kernel
theorem tb_ckI_253 : tb_ckI prog_14_method_61_code tbI253
  | 0 => tb_p253_0
  | 1 => tb_p253_1
  | 2 => tb_p253_2
  | 3 => tb_p253_3
  | j + 4 => tb_ckP_ge (show tbI253.length ≤ 40 * (j + 4) from by rw [show tbI253.length = 142 from rfl]; omega)
theorem tb_p254_0 : tb_ckP prog_14_method_60_code tbI254 0 = true := by decide +kernel
theorem tb_p254_1 : tb_ckP prog_14_method_60_code tbI254 40 = true := by decide +kernel
theorem tb_p254_2 : tb_ckP prog_14_method_60_code tbI254 80 = true := by decide +kernel
theorem tb_p254_3 : tb_ckP prog_14_method_60_code tbI254 120 = true := by decide +kernel
theorem tb_p254_4 : tb_ckP prog_14_method_60_code tbI254 160 = true := by decide +kernel
theorem tb_p254_5 : tb_ckP prog_14_method_60_code tbI254 200 = true := by decide +kernel
theorem tb_p254_6 : tb_ckP prog_14_method_60_code tbI254 240 = true := by decide +kernel
theorem tb_ckI_254 : tb_ckI prog_14_method_60_code tbI254
  | 0 => tb_p254_0
  | 1 => tb_p254_1
  | 2 => tb_p254_2
  | 3 => tb_p254_3
  | 4 => tb_p254_4
  | 5 => tb_p254_5
  | 6 => tb_p254_6
  | j + 7 => tb_ckP_ge (show tbI254.length ≤ 40 * (j + 7) from by rw [show tbI254.length = 265 from rfl]; omega)
theorem tb_p255_0 : tb_ckP prog_14_method_63_code tbI255 0 = true := by decide +kernel
theorem tb_p255_1 : tb_ckP prog_14_method_63_code tbI255 40 = true := by decide +kernel
theorem tb_p255_2 : tb_ckP prog_14_method_63_code tbI255 80 = true := by decide +kernel
theorem tb_p255_3 : tb_ckP prog_14_method_63_code tbI255 120 = true := by decide +kernel
theorem tb_p255_4 : tb_ckP prog_14_method_63_code tbI255 160 = true := by decide +kernel
theorem tb_p255_5 : tb_ckP prog_14_method_63_code tbI255 200 = true := by decide +kernel
theorem tb_p255_6 : tb_ckP prog_14_method_63_code tbI255 240 = true := by decide +kernel
theorem tb_p255_7 : tb_ckP prog_14_method_63_code tbI255 280 = true := by decide +kernel
theorem tb_ckI_255 : tb_ckI prog_14_method_63_code tbI255
  | 0 => tb_p255_0
  | 1 => tb_p255_1
  | 2 => tb_p255_2
  | 3 => tb_p255_3
  | 4 => tb_p255_4
  | 5 => tb_p255_5
  | 6 => tb_p255_6
  | 7 => tb_p255_7
  | j + 8 => tb_ckP_ge (show tbI255.length ≤ 40 * (j + 8) from by rw [show tbI255.length = 296 from rfl]; omega)
theorem tb_p256_0 : tb_ckP prog_14_method_62_code tbI256 0 = true := by decide +kernel
theorem tb_p256_1 : tb_ckP prog_14_method_62_code tbI256 40 = true := by decide +kernel
theorem tb_ckI_256 : tb_ckI prog_14_method_62_code tbI256
  | 0 => tb_p256_0
  | 1 => tb_p256_1
  | j + 2 => tb_ckP_ge (show tbI256.length ≤ 40 * (j + 2) from by rw [show tbI256.length = 62 from rfl]; omega)
theorem tb_p257_0 : tb_ckP prog_14_method_56_code tbI257 0 = true := by decide +kernel
theorem tb_p257_1 : tb_ckP prog_14_method_56_code tbI257 40 = true := by decide +kernel
theorem tb_p257_2 : tb_ckP prog_14_method_56_code tbI257 80 = true := by decide +kernel
theorem tb_p257_3 : tb_ckP prog_14_method_56_code tbI257 120 = true := by decide +kernel
theorem tb_p257_4 : tb_ckP prog_14_method_56_code tbI257 160 = true := by decide +kernel
theorem tb_p257_5 : tb_ckP prog_14_method_56_code tbI257 200 = true := by decide +kernel
theorem tb_ckI_257 : tb_ckI prog_14_method_56_code tbI257
  | 0 => tb_p257_0
  | 1 => tb_p257_1
  | 2 => tb_p257_2
  | 3 => tb_p257_3
  | 4 => tb_p257_4
  | 5 => tb_p257_5
  | j + 6 => tb_ckP_ge (show tbI257.length ≤ 40 * (j + 6) from by rw [show tbI257.length = 236 from rfl]; omega)
theorem tb_p258_0 : tb_ckP prog_14_method_54_code tbI258 0 = true := by decide +kernel
theorem tb_p258_1 : tb_ckP prog_14_method_54_code tbI258 40 = true := by decide +kernel
theorem tb_ckI_258 : tb_ckI prog_14_method_54_code tbI258
  | 0 => tb_p258_0
  | 1 => tb_p258_1
  | j + 2 => tb_ckP_ge (show tbI258.length ≤ 40 * (j + 2) from by rw [show tbI258.length = 52 from rfl]; omega)
theorem tb_p259_0 : tb_ckP prog_14_method_55_code tbI259 0 = true := by decide +kernel
theorem tb_p259_1 : tb_ckP prog_14_method_55_code tbI259 40 = true := by decide +kernel
theorem tb_p259_2 : tb_ckP prog_14_method_55_code tbI259 80 = true := by decide +kernel
theorem tb_ckI_259 : tb_ckI prog_14_method_55_code tbI259
  | 0 => tb_p259_0
  | 1 => tb_p259_1
  | 2 => tb_p259_2
  | j + 3 => tb_ckP_ge (show tbI259.length ≤ 40 * (j + 3) from by rw [show tbI259.length = 120 from rfl]; omega)
theorem tb_p260_0 : tb_ckP prog_14_method_57_code tbI260 0 = true := by decide +kernel
theorem tb_p260_1 : tb_ckP prog_14_method_57_code tbI260 40 = true := by decide +kernel
theorem tb_ckI_260 : tb_ckI prog_14_method_57_code tbI260
  | 0 => tb_p260_0
  | 1 => tb_p260_1
  | j + 2 => tb_ckP_ge (show tbI260.length ≤ 40 * (j + 2) from by rw [show tbI260.length = 55 from rfl]; omega)
theorem tb_p261_0 : tb_ckP prog_14_method_58_code tbI261 0 = true := by decide +kernel
theorem tb_p261_1 : tb_ckP prog_14_method_58_code tbI261 40 = true := by decide +kernel
theorem tb_ckI_261 : tb_ckI prog_14_method_58_code tbI261
  | 0 => tb_p261_0
  | 1 => tb_p261_1
  | j + 2 => tb_ckP_ge (show tbI261.length ≤ 40 * (j + 2) from by rw [show tbI261.length = 67 from rfl]; omega)
theorem tb_p262_0 : tb_ckP prog_14_method_65_code tbI262 0 = true := by decide +kernel
theorem tb_p262_1 : tb_ckP prog_14_method_65_code tbI262 40 = true := by decide +kernel
theorem tb_p262_2 : tb_ckP prog_14_method_65_code tbI262 80 = true := by decide +kernel
theorem tb_ckI_262 : tb_ckI prog_14_method_65_code tbI262
  | 0 => tb_p262_0
  | 1 => tb_p262_1
  | 2 => tb_p262_2
  | j + 3 => tb_ckP_ge (show tbI262.length ≤ 40 * (j + 3) from by rw [show tbI262.length = 108 from rfl]; omega)
theorem tb_p263_0 : tb_ckP prog_14_method_47_code tbI263 0 = true := by decide +kernel
theorem tb_ckI_263 : tb_ckI prog_14_method_47_code tbI263
  | 0 => tb_p263_0
  | j + 1 => tb_ckP_ge (show tbI263.length ≤ 40 * (j + 1) from by rw [show tbI263.length = 5 from rfl]; omega)
theorem tb_p264_0 : tb_ckP prog_14_method_48_code tbI264 0 = true := by decide +kernel
theorem tb_p264_1 : tb_ckP prog_14_method_48_code tbI264 40 = true := by decide +kernel
theorem tb_p264_2 : tb_ckP prog_14_method_48_code tbI264 80 = true := by decide +kernel
theorem tb_ckI_264 : tb_ckI prog_14_method_48_code tbI264
  | 0 => tb_p264_0
  | 1 => tb_p264_1
  | 2 => tb_p264_2
  | j + 3 => tb_ckP_ge (show tbI264.length ≤ 40 * (j + 3) from by rw [show tbI264.length = 96 from rfl]; omega)
theorem tb_p265_0 : tb_ckP prog_14_method_69_code tbI265 0 = true := by decide +kernel
theorem tb_p265_1 : tb_ckP prog_14_method_69_code tbI265 40 = true := by decide +kernel
theorem tb_p265_2 : tb_ckP prog_14_method_69_code tbI265 80 = true := by decide +kernel
theorem tb_p265_3 : tb_ckP prog_14_method_69_code tbI265 120 = true := by decide +kernel
theorem tb_p265_4 : tb_ckP prog_14_method_69_code tbI265 160 = true := by decide +kernel
theorem tb_p265_5 : tb_ckP prog_14_method_69_code tbI265 200 = true := by decide +kernel
theorem tb_p265_6 : tb_ckP prog_14_method_69_code tbI265 240 = true := by decide +kernel
theorem tb_p265_7 : tb_ckP prog_14_method_69_code tbI265 280 = true := by decide +kernel
theorem tb_ckI_265 : tb_ckI prog_14_method_69_code tbI265
  | 0 => tb_p265_0
  | 1 => tb_p265_1
  | 2 => tb_p265_2
  | 3 => tb_p265_3
  | 4 => tb_p265_4
  | 5 => tb_p265_5
  | 6 => tb_p265_6
  | 7 => tb_p265_7
  | j + 8 => tb_ckP_ge (show tbI265.length ≤ 40 * (j + 8) from by rw [show tbI265.length = 298 from rfl]; omega)
theorem tb_p266_0 : tb_ckP prog_14_method_67_code tbI266 0 = true := by decide +kernel
theorem tb_ckI_266 : tb_ckI prog_14_method_67_code tbI266
  | 0 => tb_p266_0
  | j + 1 => tb_ckP_ge (show tbI266.length ≤ 40 * (j + 1) from by rw [show tbI266.length = 14 from rfl]; omega)
theorem tb_p267_0 : tb_ckP prog_14_method_68_code tbI267 0 = true := by decide +kernel
theorem tb_ckI_267 : tb_ckI prog_14_method_68_code tbI267
  | 0 => tb_p267_0
  | j + 1 => tb_ckP_ge (show tbI267.length ≤ 40 * (j + 1) from by rw [show tbI267.length = 15 from rfl]; omega)
theorem tb_p268_0 : tb_ckP prog_14_method_71_code tbI268 0 = true := by decide +kernel
theorem tb_p268_1 : tb_ckP prog_14_method_71_code tbI268 40 = true := by decide +kernel
theorem tb_p268_2 : tb_ckP prog_14_method_71_code tbI268 80 = true := by decide +kernel
theorem tb_p268_3 : tb_ckP prog_14_method_71_code tbI268 120 = true := by decide +kernel
theorem tb_ckI_268 : tb_ckI prog_14_method_71_code tbI268
  | 0 => tb_p268_0
  | 1 => tb_p268_1
  | 2 => tb_p268_2
  | 3 => tb_p268_3
  | j + 4 => tb_ckP_ge (show tbI268.length ≤ 40 * (j + 4) from by rw [show tbI268.length = 149 from rfl]; omega)
theorem tb_p269_0 : tb_ckP prog_14_method_70_code tbI269 0 = true := by decide +kernel
theorem tb_ckI_269 : tb_ckI prog_14_method_70_code tbI269
  | 0 => tb_p269_0
  | j + 1 => tb_ckP_ge (show tbI269.length ≤ 40 * (j + 1) from by rw [show tbI269.length = 14 from rfl]; omega)
theorem tb_p270_0 : tb_ckP prog_14_method_72_code tbI270 0 = true := by decide +kernel
theorem tb_ckI_270 : tb_ckI prog_14_method_72_code tbI270
  | 0 => tb_p270_0
  | j + 1 => tb_ckP_ge (show tbI270.length ≤ 40 * (j + 1) from by rw [show tbI270.length = 6 from rfl]; omega)
theorem tb_p271_0 : tb_ckP prog_14_method_73_code tbI271 0 = true := by decide +kernel
theorem tb_p271_1 : tb_ckP prog_14_method_73_code tbI271 40 = true := by decide +kernel
theorem tb_p271_2 : tb_ckP prog_14_method_73_code tbI271 80 = true := by decide +kernel
theorem tb_p271_3 : tb_ckP prog_14_method_73_code tbI271 120 = true := by decide +kernel
theorem tb_ckI_271 : tb_ckI prog_14_method_73_code tbI271
  | 0 => tb_p271_0
  | 1 => tb_p271_1
  | 2 => tb_p271_2
  | 3 => tb_p271_3
  | j + 4 => tb_ckP_ge (show tbI271.length ≤ 40 * (j + 4) from by rw [show tbI271.length = 133 from rfl]; omega)
theorem tb_p272_0 : tb_ckP prog_14_method_74_code tbI272 0 = true := by decide +kernel
theorem tb_p272_1 : tb_ckP prog_14_method_74_code tbI272 40 = true := by decide +kernel
theorem tb_ckI_272 : tb_ckI prog_14_method_74_code tbI272
  | 0 => tb_p272_0
  | 1 => tb_p272_1
  | j + 2 => tb_ckP_ge (show tbI272.length ≤ 40 * (j + 2) from by rw [show tbI272.length = 69 from rfl]; omega)
theorem tb_p273_0 : tb_ckP prog_14_method_75_code tbI273 0 = true := by decide +kernel
theorem tb_p273_1 : tb_ckP prog_14_method_75_code tbI273 40 = true := by decide +kernel
theorem tb_p273_2 : tb_ckP prog_14_method_75_code tbI273 80 = true := by decide +kernel
theorem tb_p273_3 : tb_ckP prog_14_method_75_code tbI273 120 = true := by decide +kernel
theorem tb_p273_4 : tb_ckP prog_14_method_75_code tbI273 160 = true := by decide +kernel
theorem tb_p273_5 : tb_ckP prog_14_method_75_code tbI273 200 = true := by decide +kernel
theorem tb_ckI_273 : tb_ckI prog_14_method_75_code tbI273
  | 0 => tb_p273_0
  | 1 => tb_p273_1
  | 2 => tb_p273_2
  | 3 => tb_p273_3
  | 4 => tb_p273_4
  | 5 => tb_p273_5
  | j + 6 => tb_ckP_ge (show tbI273.length ≤ 40 * (j + 6) from by rw [show tbI273.length = 205 from rfl]; omega)
theorem tb_p274_0 : tb_ckP prog_14_method_76_code tbI274 0 = true := by decide +kernel
theorem tb_p274_1 : tb_ckP prog_14_method_76_code tbI274 40 = true := by decide +kernel
theorem tb_p274_2 : tb_ckP prog_14_method_76_code tbI274 80 = true := by decide +kernel
theorem tb_ckI_274 : tb_ckI prog_14_method_76_code tbI274
  | 0 => tb_p274_0
  | 1 => tb_p274_1
  | 2 => tb_p274_2
  | j + 3 => tb_ckP_ge (show tbI274.length ≤ 40 * (j + 3) from by rw [show tbI274.length = 99 from rfl]; omega)
theorem tb_p275_0 : tb_ckP prog_14_method_77_code tbI275 0 = true := by decide +kernel
theorem tb_p275_1 : tb_ckP prog_14_method_77_code tbI275 40 = true := by decide +kernel
theorem tb_ckI_275 : tb_ckI prog_14_method_77_code tbI275
  | 0 => tb_p275_0
  | 1 => tb_p275_1
  | j + 2 => tb_ckP_ge (show tbI275.length ≤ 40 * (j + 2) from by rw [show tbI275.length = 79 from rfl]; omega)
theorem tb_p276_0 : tb_ckP prog_14_method_78_code tbI276 0 = true := by decide +kernel
theorem tb_p276_1 : tb_ckP prog_14_method_78_code tbI276 40 = true := by decide +kernel
theorem tb_p276_2 : tb_ckP prog_14_method_78_code tbI276 80 = true := by decide +kernel
theorem tb_ckI_276 : tb_ckI prog_14_method_78_code tbI276
  | 0 => tb_p276_0
  | 1 => tb_p276_1
  | 2 => tb_p276_2
  | j + 3 => tb_ckP_ge (show tbI276.length ≤ 40 * (j + 3) from by rw [show tbI276.length = 106 from rfl]; omega)
theorem tb_p277_0 : tb_ckP prog_14_method_81_code tbI277 0 = true := by decide +kernel
theorem tb_ckI_277 : tb_ckI prog_14_method_81_code tbI277
  | 0 => tb_p277_0
  | j + 1 => tb_ckP_ge (show tbI277.length ≤ 40 * (j + 1) from by rw [show tbI277.length = 8 from rfl]; omega)
theorem tb_p278_0 : tb_ckP prog_14_method_80_code tbI278 0 = true := by decide +kernel
theorem tb_p278_1 : tb_ckP prog_14_method_80_code tbI278 40 = true := by decide +kernel
theorem tb_ckI_278 : tb_ckI prog_14_method_80_code tbI278
  | 0 => tb_p278_0
  | 1 => tb_p278_1
  | j + 2 => tb_ckP_ge (show tbI278.length ≤ 40 * (j + 2) from by rw [show tbI278.length = 70 from rfl]; omega)
theorem tb_p279_0 : tb_ckP prog_14_method_82_code tbI279 0 = true := by decide +kernel
theorem tb_ckI_279 : tb_ckI prog_14_method_82_code tbI279
  | 0 => tb_p279_0
  | j + 1 => tb_ckP_ge (show tbI279.length ≤ 40 * (j + 1) from by rw [show tbI279.length = 16 from rfl]; omega)
theorem tb_p280_0 : tb_ckP prog_14_method_83_code tbI280 0 = true := by decide +kernel
theorem tb_p280_1 : tb_ckP prog_14_method_83_code tbI280 40 = true := by decide +kernel
theorem tb_p280_2 : tb_ckP prog_14_method_83_code tbI280 80 = true := by decide +kernel
theorem tb_ckI_280 : tb_ckI prog_14_method_83_code tbI280
  | 0 => tb_p280_0
  | 1 => tb_p280_1
  | 2 => tb_p280_2
  | j + 3 => tb_ckP_ge (show tbI280.length ≤ 40 * (j + 3) from by rw [show tbI280.length = 93 from rfl]; omega)
theorem tb_p281_0 : tb_ckP prog_14_method_84_code tbI281 0 = true := by decide +kernel
theorem tb_ckI_281 : tb_ckI prog_14_method_84_code tbI281
  | 0 => tb_p281_0
  | j + 1 => tb_ckP_ge (show tbI281.length ≤ 40 * (j + 1) from by rw [show tbI281.length = 9 from rfl]; omega)
theorem tb_p282_0 : tb_ckP prog_14_method_86_code tbI282 0 = true := by decide +kernel
theorem tb_p282_1 : tb_ckP prog_14_method_86_code tbI282 40 = true := by decide +kernel
theorem tb_p282_2 : tb_ckP prog_14_method_86_code tbI282 80 = true := by decide +kernel
theorem tb_p282_3 : tb_ckP prog_14_method_86_code tbI282 120 = true := by decide +kernel
theorem tb_p282_4 : tb_ckP prog_14_method_86_code tbI282 160 = true := by decide +kernel
theorem tb_p282_5 : tb_ckP prog_14_method_86_code tbI282 200 = true := by decide +kernel
theorem tb_ckI_282 : tb_ckI prog_14_method_86_code tbI282
  | 0 => tb_p282_0
  | 1 => tb_p282_1
  | 2 => tb_p282_2
  | 3 => tb_p282_3
  | 4 => tb_p282_4
  | 5 => tb_p282_5
  | j + 6 => tb_ckP_ge (show tbI282.length ≤ 40 * (j + 6) from by rw [show tbI282.length = 223 from rfl]; omega)
theorem tb_p283_0 : tb_ckP prog_14_method_79_code tbI283 0 = true := by decide +kernel
theorem tb_ckI_283 : tb_ckI prog_14_method_79_code tbI283
  | 0 => tb_p283_0
  | j + 1 => tb_ckP_ge (show tbI283.length ≤ 40 * (j + 1) from by rw [show tbI283.length = 14 from rfl]; omega)
theorem tb_p284_0 : tb_ckP prog_14_method_85_code tbI284 0 = true := by decide +kernel
theorem tb_p284_1 : tb_ckP prog_14_method_85_code tbI284 40 = true := by decide +kernel
theorem tb_ckI_284 : tb_ckI prog_14_method_85_code tbI284
  | 0 => tb_p284_0
  | 1 => tb_p284_1
  | j + 2 => tb_ckP_ge (show tbI284.length ≤ 40 * (j + 2) from by rw [show tbI284.length = 63 from rfl]; omega)
theorem tb_p285_0 : tb_ckP prog_14_method_87_code tbI285 0 = true := by decide +kernel
theorem tb_p285_1 : tb_ckP prog_14_method_87_code tbI285 40 = true := by decide +kernel
theorem tb_p285_2 : tb_ckP prog_14_method_87_code tbI285 80 = true := by decide +kernel
theorem tb_ckI_285 : tb_ckI prog_14_method_87_code tbI285
  | 0 => tb_p285_0
  | 1 => tb_p285_1
  | 2 => tb_p285_2
  | j + 3 => tb_ckP_ge (show tbI285.length ≤ 40 * (j + 3) from by rw [show tbI285.length = 118 from rfl]; omega)
theorem tb_p286_0 : tb_ckP prog_14_method_88_code tbI286 0 = true := by decide +kernel
theorem tb_p286_1 : tb_ckP prog_14_method_88_code tbI286 40 = true := by decide +kernel
theorem tb_p286_2 : tb_ckP prog_14_method_88_code tbI286 80 = true := by decide +kernel
theorem tb_p286_3 : tb_ckP prog_14_method_88_code tbI286 120 = true := by decide +kernel
theorem tb_p286_4 : tb_ckP prog_14_method_88_code tbI286 160 = true := by decide +kernel
theorem tb_p286_5 : tb_ckP prog_14_method_88_code tbI286 200 = true := by decide +kernel
theorem tb_ckI_286 : tb_ckI prog_14_method_88_code tbI286
  | 0 => tb_p286_0
  | 1 => tb_p286_1
  | 2 => tb_p286_2
  | 3 => tb_p286_3
  | 4 => tb_p286_4
  | 5 => tb_p286_5
  | j + 6 => tb_ckP_ge (show tbI286.length ≤ 40 * (j + 6) from by rw [show tbI286.length = 209 from rfl]; omega)
theorem tb_p287_0 : tb_ckP prog_14_method_101_code tbI287 0 = true := by decide +kernel
theorem tb_ckI_287 : tb_ckI prog_14_method_101_code tbI287
  | 0 => tb_p287_0
  | j + 1 => tb_ckP_ge (show tbI287.length ≤ 40 * (j + 1) from by rw [show tbI287.length = 11 from rfl]; omega)
theorem tb_p288_0 : tb_ckP prog_14_method_100_code tbI288 0 = true := by decide +kernel
theorem tb_p288_1 : tb_ckP prog_14_method_100_code tbI288 40 = true := by decide +kernel
theorem tb_p288_2 : tb_ckP prog_14_method_100_code tbI288 80 = true := by decide +kernel
theorem tb_p288_3 : tb_ckP prog_14_method_100_code tbI288 120 = true := by decide +kernel
theorem tb_p288_4 : tb_ckP prog_14_method_100_code tbI288 160 = true := by decide +kernel
theorem tb_p288_5 : tb_ckP prog_14_method_100_code tbI288 200 = true := by decide +kernel
theorem tb_p288_6 : tb_ckP prog_14_method_100_code tbI288 240 = true := by decide +kernel
theorem tb_p288_7 : tb_ckP prog_14_method_100_code tbI288 280 = true := by decide +kernel
theorem tb_p288_8 : tb_ckP prog_14_method_100_code tbI288 320 = true := by decide +kernel
theorem tb_p288_9 : tb_ckP prog_14_method_100_code tbI288 360 = true := by decide +kernel
theorem tb_p288_10 : tb_ckP prog_14_method_100_code tbI288 400 = true := by decide +kernel
theorem tb_ckI_288 : tb_ckI prog_14_method_100_code tbI288
  | 0 => tb_p288_0
  | 1 => tb_p288_1
  | 2 => tb_p288_2
  | 3 => tb_p288_3
  | 4 => tb_p288_4
  | 5 => tb_p288_5
  | 6 => tb_p288_6
  | 7 => tb_p288_7
  | 8 => tb_p288_8
  | 9 => tb_p288_9
  | 10 => tb_p288_10
  | j + 11 => tb_ckP_ge (show tbI288.length ≤ 40 * (j + 11) from by rw [show tbI288.length = 419 from rfl]; omega)
