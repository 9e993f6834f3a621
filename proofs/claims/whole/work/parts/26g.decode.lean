theorem tb_p234_0 : tb_ckP prog_14_method_30_code tbI234 0 = true := by decide +kernel
theorem tb_p234_1 : tb_ckP prog_14_method_30_code tbI234 40 = true := by decide +kernel
theorem tb_p234_2 : tb_ckP prog_14_method_30_code tbI234 80 = true := by decide +kernel
theorem tb_p234_3 : tb_ckP prog_14_method_30_code tbI234 120 = true := by decide +kernel
theorem tb_ln234 : tbI234.length = 140 := by decide +kernel
theorem tb_ckI_234 : tb_ckI prog_14_method_30_code tbI234
  | 0 => tb_p234_0
  | 1 => tb_p234_1
  | 2 => tb_p234_2
  | 3 => tb_p234_3
  | j + 4 => tb_ckP_ge (show tbI234.length ≤ 40 * (j + 4) from by rw [tb_ln234]; omega)
theorem tb_p235_0 : tb_ckP prog_14_method_32_code tbI235 0 = true := by decide +kernel
theorem tb_p235_1 : tb_ckP prog_14_method_32_code tbI235 40 = true := by decide +kernel
theorem tb_p235_2 : tb_ckP prog_14_method_32_code tbI235 80 = true := by decide +kernel
theorem tb_p235_3 : tb_ckP prog_14_method_32_code tbI235 120 = true := by decide +kernel
theorem tb_p235_4 : tb_ckP prog_14_method_32_code tbI235 160 = true := by decide +kernel
theorem tb_p235_5 : tb_ckP prog_14_method_32_code tbI235 200 = true := by decide +kernel
theorem tb_ln235 : tbI235.length = 218 := by decide +kernel
theorem tb_ckI_235 : tb_ckI prog_14_method_32_code tbI235
  | 0 => tb_p235_0
  | 1 => tb_p235_1
  | 2 => tb_p235_2
  | 3 => tb_p235_3
  | 4 => tb_p235_4
  | 5 => tb_p235_5
  | j + 6 => tb_ckP_ge (show tbI235.length ≤ 40 * (j + 6) from by rw [tb_ln235]; omega)
theorem tb_p236_0 : tb_ckP prog_14_method_31_code tbI236 0 = true := by decide +kernel
theorem tb_p236_1 : tb_ckP prog_14_method_31_code tbI236 40 = true := by decide +kernel
theorem tb_p236_2 : tb_ckP prog_14_method_31_code tbI236 80 = true := by decide +kernel
theorem tb_p236_3 : tb_ckP prog_14_method_31_code tbI236 120 = true := by decide +kernel
theorem tb_p236_4 : tb_ckP prog_14_method_31_code tbI236 160 = true := by decide +kernel
theorem tb_p236_5 : tb_ckP prog_14_method_31_code tbI236 200 = true := by decide +kernel
theorem tb_ln236 : tbI236.length = 202 := by decide +kernel
theorem tb_ckI_236 : tb_ckI prog_14_method_31_code tbI236
  | 0 => tb_p236_0
  | 1 => tb_p236_1
  | 2 => tb_p236_2
  | 3 => tb_p236_3
  | 4 => tb_p236_4
  | 5 => tb_p236_5
  | j + 6 => tb_ckP_ge (show tbI236.length ≤ 40 * (j + 6) from by rw [tb_ln236]; omega)
theorem tb_p237_0 : tb_ckP prog_14_method_39_code tbI237 0 = true := by decide +kernel
theorem tb_p237_1 : tb_ckP prog_14_method_39_code tbI237 40 = true := by decide +kernel
theorem tb_p237_2 : tb_ckP prog_14_method_39_code tbI237 80 = true := by decide +kernel
theorem tb_p237_3 : tb_ckP prog_14_method_39_code tbI237 120 = true := by decide +kernel
theorem tb_ln237 : tbI237.length = 126 := by decide +kernel
theorem tb_ckI_237 : tb_ckI prog_14_method_39_code tbI237
  | 0 => tb_p237_0
  | 1 => tb_p237_1
  | 2 => tb_p237_2
  | 3 => tb_p237_3
  | j + 4 => tb_ckP_ge (show tbI237.length ≤ 40 * (j + 4) from by rw [tb_ln237]; omega)
theorem tb_p238_0 : tb_ckP prog_14_method_38_code tbI238 0 = true := by decide +kernel
theorem tb_p238_1 : tb_ckP prog_14_method_38_code tbI238 40 = true := by decide +kernel
theorem tb_p238_2 : tb_ckP prog_14_method_38_code tbI238 80 = true := by decide +kernel
theorem tb_ln238 : tbI238.length = 96 := by decide +kernel
theorem tb_ckI_238 : tb_ckI prog_14_method_38_code tbI238
  | 0 => tb_p238_0
  | 1 => tb_p238_1
  | 2 => tb_p238_2
  | j + 3 => tb_ckP_ge (show tbI238.length ≤ 40 * (j + 3) from by rw [tb_ln238]; omega)
theorem tb_p239_0 : tb_ckP prog_14_method_37_code tbI239 0 = true := by decide +kernel
theorem tb_p239_1 : tb_ckP prog_14_method_37_code tbI239 40 = true := by decide +kernel
theorem tb_p239_2 : tb_ckP prog_14_method_37_code tbI239 80 = true := by decide +kernel
theorem tb_ln239 : tbI239.length = 83 := by decide +kernel
theorem tb_ckI_239 : tb_ckI prog_14_method_37_code tbI239
  | 0 => tb_p239_0
  | 1 => tb_p239_1
  | 2 => tb_p239_2
  | j + 3 => tb_ckP_ge (show tbI239.length ≤ 40 * (j + 3) from by rw [tb_ln239]; omega)
theorem tb_p240_0 : tb_ckP prog_14_method_36_code tbI240 0 = true := by decide +kernel
theorem tb_p240_1 : tb_ckP prog_14_method_36_code tbI240 40 = true := by decide +kernel
theorem tb_ln240 : tbI240.length = 68 := by decide +kernel
theorem tb_ckI_240 : tb_ckI prog_14_method_36_code tbI240
  | 0 => tb_p240_0
  | 1 => tb_p240_1
  | j + 2 => tb_ckP_ge (show tbI240.length ≤ 40 * (j + 2) from by rw [tb_ln240]; omega)
theorem tb_p241_0 : tb_ckP prog_14_method_40_code tbI241 0 = true := by decide +kernel
theorem tb_p241_1 : tb_ckP prog_14_method_40_code tbI241 40 = true := by decide +kernel
theorem tb_p241_2 : tb_ckP prog_14_method_40_code tbI241 80 = true := by decide +kernel
theorem tb_p241_3 : tb_ckP prog_14_method_40_code tbI241 120 = true := by decide +kernel
theorem tb_p241_4 : tb_ckP prog_14_method_40_code tbI241 160 = true := by decide +kernel
theorem tb_p241_5 : tb_ckP prog_14_method_40_code tbI241 200 = true := by decide +kernel
theorem tb_p241_6 : tb_ckP prog_14_method_40_code tbI241 240 = true := by decide +kernel
theorem tb_p241_7 : tb_ckP prog_14_method_40_code tbI241 280 = true := by decide +kernel
theorem tb_p241_8 : tb_ckP prog_14_method_40_code tbI241 320 = true := by decide +kernel
theorem tb_ln241 : tbI241.length = 336 := by decide +kernel
theorem tb_ckI_241 : tb_ckI prog_14_method_40_code tbI241
  | 0 => tb_p241_0
  | 1 => tb_p241_1
  | 2 => tb_p241_2
  | 3 => tb_p241_3
  | 4 => tb_p241_4
  | 5 => tb_p241_5
  | 6 => tb_p241_6
  | 7 => tb_p241_7
  | 8 => tb_p241_8
  | j + 9 => tb_ckP_ge (show tbI241.length ≤ 40 * (j + 9) from by rw [tb_ln241]; omega)
theorem tb_p242_0 : tb_ckP prog_14_method_44_code tbI242 0 = true := by decide +kernel
theorem tb_p242_1 : tb_ckP prog_14_method_44_code tbI242 40 = true := by decide +kernel
theorem tb_p242_2 : tb_ckP prog_14_method_44_code tbI242 80 = true := by decide +kernel
theorem tb_p242_3 : tb_ckP prog_14_method_44_code tbI242 120 = true := by decide +kernel
theorem tb_p242_4 : tb_ckP prog_14_method_44_code tbI242 160 = true := by decide +kernel
theorem tb_ln242 : tbI242.length = 163 := by decide +kernel
theorem tb_ckI_242 : tb_ckI prog_14_method_44_code tbI242
  | 0 => tb_p242_0
  | 1 => tb_p242_1
  | 2 => tb_p242_2
  | 3 => tb_p242_3
  | 4 => tb_p242_4
  | j + 5 => tb_ckP_ge (show tbI242.length ≤ 40 * (j + 5) from by rw [tb_ln242]; omega)
theorem tb_p243_0 : tb_ckP prog_14_method_43_code tbI243 0 = true := by decide +kernel
theorem tb_p243_1 : tb_ckP prog_14_method_43_code tbI243 40 = true := by decide +kernel
theorem tb_p243_2 : tb_ckP prog_14_method_43_code tbI243 80 = true := by decide +kernel
theorem tb_p243_3 : tb_ckP prog_14_method_43_code tbI243 120 = true := by decide +kernel
theorem tb_p243_4 : tb_ckP prog_14_method_43_code tbI243 160 = true := by decide +kernel
theorem tb_ln243 : tbI243.length = 184 := by decide +kernel
theorem tb_ckI_243 : tb_ckI prog_14_method_43_code tbI243
  | 0 => tb_p243_0
  | 1 => tb_p243_1
  | 2 => tb_p243_2
  | 3 => tb_p243_3
  | 4 => tb_p243_4
  | j + 5 => tb_ckP_ge (show tbI243.length ≤ 40 * (j + 5) from by rw [tb_ln243]; omega)
theorem tb_p244_0 : tb_ckP prog_14_method_66_code tbI244 0 = true := by decide +kernel
theorem tb_p244_1 : tb_ckP prog_14_method_66_code tbI244 40 = true := by decide +kernel
theorem tb_p244_2 : tb_ckP prog_14_method_66_code tbI244 80 = true := by decide +kernel
theorem tb_p244_3 : tb_ckP prog_14_method_66_code tbI244 120 = true := by decide +kernel
theorem tb_p244_4 : tb_ckP prog_14_method_66_code tbI244 160 = true := by decide +kernel
theorem tb_p244_5 : tb_ckP prog_14_method_66_code tbI244 200 = true := by decide +kernel
theorem tb_p244_6 : tb_ckP prog_14_method_66_code tbI244 240 = true := by decide +kernel
theorem tb_p244_7 : tb_ckP prog_14_method_66_code tbI244 280 = true := by decide +kernel
theorem tb_ln244 : tbI244.length = 287 := by decide +kernel
theorem tb_ckI_244 : tb_ckI prog_14_method_66_code tbI244
  | 0 => tb_p244_0
  | 1 => tb_p244_1
  | 2 => tb_p244_2
  | 3 => tb_p244_3
  | 4 => tb_p244_4
  | 5 => tb_p244_5
  | 6 => tb_p244_6
  | 7 => tb_p244_7
  | j + 8 => tb_ckP_ge (show tbI244.length ≤ 40 * (j + 8) from by rw [tb_ln244]; omega)
theorem tb_p245_0 : tb_ckP prog_14_method_53_code tbI245 0 = true := by decide +kernel
theorem tb_p245_1 : tb_ckP prog_14_method_53_code tbI245 40 = true := by decide +kernel
theorem tb_p245_2 : tb_ckP prog_14_method_53_code tbI245 80 = true := by decide +kernel
theorem tb_ln245 : tbI245.length = 87 := by decide +kernel
theorem tb_ckI_245 : tb_ckI prog_14_method_53_code tbI245
  | 0 => tb_p245_0
  | 1 => tb_p245_1
  | 2 => tb_p245_2
  | j + 3 => tb_ckP_ge (show tbI245.length ≤ 40 * (j + 3) from by rw [tb_ln245]; omega)
theorem tb_p246_0 : tb_ckP prog_14_method_52_code tbI246 0 = true := by decide +kernel
theorem tb_p246_1 : tb_ckP prog_14_method_52_code tbI246 40 = true := by decide +kernel
theorem tb_p246_2 : tb_ckP prog_14_method_52_code tbI246 80 = true := by decide +kernel
theorem tb_p246_3 : tb_ckP prog_14_method_52_code tbI246 120 = true := by decide +kernel
theorem tb_p246_4 : tb_ckP prog_14_method_52_code tbI246 160 = true := by decide +kernel
theorem tb_p246_5 : tb_ckP prog_14_method_52_code tbI246 200 = true := by decide +kernel
theorem tb_ln246 : tbI246.length = 201 := by decide +kernel
theorem tb_ckI_246 : tb_ckI prog_14_method_52_code tbI246
  | 0 => tb_p246_0
  | 1 => tb_p246_1
  | 2 => tb_p246_2
  | 3 => tb_p246_3
  | 4 => tb_p246_4
  | 5 => tb_p246_5
  | j + 6 => tb_ckP_ge (show tbI246.length ≤ 40 * (j + 6) from by rw [tb_ln246]; omega)
theorem tb_p247_0 : tb_ckP prog_14_method_50_code tbI247 0 = true := by decide +kernel
theorem tb_p247_1 : tb_ckP prog_14_method_50_code tbI247 40 = true := by decide +kernel
theorem tb_p247_2 : tb_ckP prog_14_method_50_code tbI247 80 = true := by decide +kernel
theorem tb_p247_3 : tb_ckP prog_14_method_50_code tbI247 120 = true := by decide +kernel
theorem tb_ln247 : tbI247.length = 144 := by decide +kernel
theorem tb_ckI_247 : tb_ckI prog_14_method_50_code tbI247
  | 0 => tb_p247_0
  | 1 => tb_p247_1
  | 2 => tb_p247_2
  | 3 => tb_p247_3
  | j + 4 => tb_ckP_ge (show tbI247.length ≤ 40 * (j + 4) from by rw [tb_ln247]; omega)
theorem tb_p248_0 : tb_ckP prog_14_method_49_code tbI248 0 = true := by decide +kernel
theorem tb_p248_1 : tb_ckP prog_14_method_49_code tbI248 40 = true := by decide +kernel
theorem tb_ln248 : tbI248.length = 52 := by decide +kernel
theorem tb_ckI_248 : tb_ckI prog_14_method_49_code tbI248
  | 0 => tb_p248_0
  | 1 => tb_p248_1
  | j + 2 => tb_ckP_ge (show tbI248.length ≤ 40 * (j + 2) from by rw [tb_ln248]; omega)
theorem tb_p249_0 : tb_ckP prog_14_method_51_code tbI249 0 = true := by decide +kernel
theorem tb_p249_1 : tb_ckP prog_14_method_51_code tbI249 40 = true := by decide +kernel
theorem tb_p249_2 : tb_ckP prog_14_method_51_code tbI249 80 = true := by decide +kernel
theorem tb_ln249 : tbI249.length = 108 := by decide +kernel
theorem tb_ckI_249 : tb_ckI prog_14_method_51_code tbI249
  | 0 => tb_p249_0
  | 1 => tb_p249_1
  | 2 => tb_p249_2
  | j + 3 => tb_ckP_ge (show tbI249.length ≤ 40 * (j + 3) from by rw [tb_ln249]; omega)
theorem tb_p250_0 : tb_ckP prog_14_method_89_code tbI250 0 = true := by decide +kernel
theorem tb_p250_1 : tb_ckP prog_14_method_89_code tbI250 40 = true := by decide +kernel
theorem tb_ln250 : tbI250.length = 55 := by decide +kernel
theorem tb_ckI_250 : tb_ckI prog_14_method_89_code tbI250
  | 0 => tb_p250_0
  | 1 => tb_p250_1
  | j + 2 => tb_ckP_ge (show tbI250.length ≤ 40 * (j + 2) from by rw [tb_ln250]; omega)
theorem tb_p251_0 : tb_ckP prog_14_method_64_code tbI251 0 = true := by decide +kernel
theorem tb_p251_1 : tb_ckP prog_14_method_64_code tbI251 40 = true := by decide +kernel
theorem tb_p251_2 : tb_ckP prog_14_method_64_code tbI251 80 = true := by decide +kernel
theorem tb_p251_3 : tb_ckP prog_14_method_64_code tbI251 120 = true := by decide +kernel
theorem tb_p251_4 : tb_ckP prog_14_method_64_code tbI251 160 = true := by decide +kernel
theorem tb_p251_5 : tb_ckP prog_14_method_64_code tbI251 200 = true := by decide +kernel
theorem tb_p251_6 : tb_ckP prog_14_method_64_code tbI251 240 = true := by decide +kernel
theorem tb_ln251 : tbI251.length = 257 := by decide +kernel
theorem tb_ckI_251 : tb_ckI prog_14_method_64_code tbI251
  | 0 => tb_p251_0
  | 1 => tb_p251_1
  | 2 => tb_p251_2
  | 3 => tb_p251_3
  | 4 => tb_p251_4
  | 5 => tb_p251_5
  | 6 => tb_p251_6
  | j + 7 => tb_ckP_ge (show tbI251.length ≤ 40 * (j + 7) from by rw [tb_ln251]; omega)
theorem tb_p252_0 : tb_ckP prog_14_method_59_code tbI252 0 = true := by decide +kernel
theorem tb_p252_1 : tb_ckP prog_14_method_59_code tbI252 40 = true := by decide +kernel
theorem tb_p252_2 : tb_ckP prog_14_method_59_code tbI252 80 = true := by decide +kernel
theorem tb_ln252 : tbI252.length = 118 := by decide +kernel
theorem tb_ckI_252 : tb_ckI prog_14_method_59_code tbI252
  | 0 => tb_p252_0
  | 1 => tb_p252_1
  | 2 => tb_p252_2
  | j + 3 => tb_ckP_ge (show tbI252.length ≤ 40 * (j + 3) from by rw [tb_ln252]; omega)
