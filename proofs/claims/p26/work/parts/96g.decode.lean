theorem tb_p232_0 : tb_ckP prog_14_method_30_code tbI232 0 = true := by decide +kernel
theorem tb_p232_1 : tb_ckP prog_14_method_30_code tbI232 40 = true := by decide +kernel
theorem tb_p232_2 : tb_ckP prog_14_method_30_code tbI232 80 = true := by decide +kernel
theorem tb_p232_3 : tb_ckP prog_14_method_30_code tbI232 120 = true := by decide +kernel
theorem tb_ln232 : tbI232.length = 140 := by decide +kernel
theorem tb_ckI_232 : tb_ckI prog_14_method_30_code tbI232
  | 0 => tb_p232_0
  | 1 => tb_p232_1
  | 2 => tb_p232_2
  | 3 => tb_p232_3
  | j + 4 => tb_ckP_ge (show tbI232.length ≤ 40 * (j + 4) from by rw [tb_ln232]; omega)
theorem tb_p233_0 : tb_ckP prog_14_method_32_code tbI233 0 = true := by decide +kernel
theorem tb_p233_1 : tb_ckP prog_14_method_32_code tbI233 40 = true := by decide +kernel
theorem tb_p233_2 : tb_ckP prog_14_method_32_code tbI233 80 = true := by decide +kernel
theorem tb_p233_3 : tb_ckP prog_14_method_32_code tbI233 120 = true := by decide +kernel
theorem tb_p233_4 : tb_ckP prog_14_method_32_code tbI233 160 = true := by decide +kernel
theorem tb_p233_5 : tb_ckP prog_14_method_32_code tbI233 200 = true := by decide +kernel
theorem tb_ln233 : tbI233.length = 218 := by decide +kernel
theorem tb_ckI_233 : tb_ckI prog_14_method_32_code tbI233
  | 0 => tb_p233_0
  | 1 => tb_p233_1
  | 2 => tb_p233_2
  | 3 => tb_p233_3
  | 4 => tb_p233_4
  | 5 => tb_p233_5
  | j + 6 => tb_ckP_ge (show tbI233.length ≤ 40 * (j + 6) from by rw [tb_ln233]; omega)
theorem tb_p234_0 : tb_ckP prog_14_method_31_code tbI234 0 = true := by decide +kernel
theorem tb_p234_1 : tb_ckP prog_14_method_31_code tbI234 40 = true := by decide +kernel
theorem tb_p234_2 : tb_ckP prog_14_method_31_code tbI234 80 = true := by decide +kernel
theorem tb_p234_3 : tb_ckP prog_14_method_31_code tbI234 120 = true := by decide +kernel
theorem tb_p234_4 : tb_ckP prog_14_method_31_code tbI234 160 = true := by decide +kernel
theorem tb_p234_5 : tb_ckP prog_14_method_31_code tbI234 200 = true := by decide +kernel
theorem tb_ln234 : tbI234.length = 202 := by decide +kernel
theorem tb_ckI_234 : tb_ckI prog_14_method_31_code tbI234
  | 0 => tb_p234_0
  | 1 => tb_p234_1
  | 2 => tb_p234_2
  | 3 => tb_p234_3
  | 4 => tb_p234_4
  | 5 => tb_p234_5
  | j + 6 => tb_ckP_ge (show tbI234.length ≤ 40 * (j + 6) from by rw [tb_ln234]; omega)
theorem tb_p235_0 : tb_ckP prog_14_method_39_code tbI235 0 = true := by decide +kernel
theorem tb_p235_1 : tb_ckP prog_14_method_39_code tbI235 40 = true := by decide +kernel
theorem tb_p235_2 : tb_ckP prog_14_method_39_code tbI235 80 = true := by decide +kernel
theorem tb_p235_3 : tb_ckP prog_14_method_39_code tbI235 120 = true := by decide +kernel
theorem tb_ln235 : tbI235.length = 126 := by decide +kernel
theorem tb_ckI_235 : tb_ckI prog_14_method_39_code tbI235
  | 0 => tb_p235_0
  | 1 => tb_p235_1
  | 2 => tb_p235_2
  | 3 => tb_p235_3
  | j + 4 => tb_ckP_ge (show tbI235.length ≤ 40 * (j + 4) from by rw [tb_ln235]; omega)
theorem tb_p236_0 : tb_ckP prog_14_method_38_code tbI236 0 = true := by decide +kernel
theorem tb_p236_1 : tb_ckP prog_14_method_38_code tbI236 40 = true := by decide +kernel
theorem tb_p236_2 : tb_ckP prog_14_method_38_code tbI236 80 = true := by decide +kernel
theorem tb_ln236 : tbI236.length = 96 := by decide +kernel
theorem tb_ckI_236 : tb_ckI prog_14_method_38_code tbI236
  | 0 => tb_p236_0
  | 1 => tb_p236_1
  | 2 => tb_p236_2
  | j + 3 => tb_ckP_ge (show tbI236.length ≤ 40 * (j + 3) from by rw [tb_ln236]; omega)
theorem tb_p237_0 : tb_ckP prog_14_method_37_code tbI237 0 = true := by decide +kernel
theorem tb_p237_1 : tb_ckP prog_14_method_37_code tbI237 40 = true := by decide +kernel
theorem tb_p237_2 : tb_ckP prog_14_method_37_code tbI237 80 = true := by decide +kernel
theorem tb_ln237 : tbI237.length = 83 := by decide +kernel
theorem tb_ckI_237 : tb_ckI prog_14_method_37_code tbI237
  | 0 => tb_p237_0
  | 1 => tb_p237_1
  | 2 => tb_p237_2
  | j + 3 => tb_ckP_ge (show tbI237.length ≤ 40 * (j + 3) from by rw [tb_ln237]; omega)
theorem tb_p238_0 : tb_ckP prog_14_method_36_code tbI238 0 = true := by decide +kernel
theorem tb_p238_1 : tb_ckP prog_14_method_36_code tbI238 40 = true := by decide +kernel
theorem tb_ln238 : tbI238.length = 68 := by decide +kernel
theorem tb_ckI_238 : tb_ckI prog_14_method_36_code tbI238
  | 0 => tb_p238_0
  | 1 => tb_p238_1
  | j + 2 => tb_ckP_ge (show tbI238.length ≤ 40 * (j + 2) from by rw [tb_ln238]; omega)
theorem tb_p239_0 : tb_ckP prog_14_method_40_code tbI239 0 = true := by decide +kernel
theorem tb_p239_1 : tb_ckP prog_14_method_40_code tbI239 40 = true := by decide +kernel
theorem tb_p239_2 : tb_ckP prog_14_method_40_code tbI239 80 = true := by decide +kernel
theorem tb_p239_3 : tb_ckP prog_14_method_40_code tbI239 120 = true := by decide +kernel
theorem tb_p239_4 : tb_ckP prog_14_method_40_code tbI239 160 = true := by decide +kernel
theorem tb_p239_5 : tb_ckP prog_14_method_40_code tbI239 200 = true := by decide +kernel
theorem tb_p239_6 : tb_ckP prog_14_method_40_code tbI239 240 = true := by decide +kernel
theorem tb_p239_7 : tb_ckP prog_14_method_40_code tbI239 280 = true := by decide +kernel
theorem tb_p239_8 : tb_ckP prog_14_method_40_code tbI239 320 = true := by decide +kernel
theorem tb_ln239 : tbI239.length = 336 := by decide +kernel
theorem tb_ckI_239 : tb_ckI prog_14_method_40_code tbI239
  | 0 => tb_p239_0
  | 1 => tb_p239_1
  | 2 => tb_p239_2
  | 3 => tb_p239_3
  | 4 => tb_p239_4
  | 5 => tb_p239_5
  | 6 => tb_p239_6
  | 7 => tb_p239_7
  | 8 => tb_p239_8
  | j + 9 => tb_ckP_ge (show tbI239.length ≤ 40 * (j + 9) from by rw [tb_ln239]; omega)
theorem tb_p240_0 : tb_ckP prog_14_method_44_code tbI240 0 = true := by decide +kernel
theorem tb_p240_1 : tb_ckP prog_14_method_44_code tbI240 40 = true := by decide +kernel
theorem tb_p240_2 : tb_ckP prog_14_method_44_code tbI240 80 = true := by decide +kernel
theorem tb_p240_3 : tb_ckP prog_14_method_44_code tbI240 120 = true := by decide +kernel
theorem tb_p240_4 : tb_ckP prog_14_method_44_code tbI240 160 = true := by decide +kernel
theorem tb_ln240 : tbI240.length = 163 := by decide +kernel
theorem tb_ckI_240 : tb_ckI prog_14_method_44_code tbI240
  | 0 => tb_p240_0
  | 1 => tb_p240_1
  | 2 => tb_p240_2
  | 3 => tb_p240_3
  | 4 => tb_p240_4
  | j + 5 => tb_ckP_ge (show tbI240.length ≤ 40 * (j + 5) from by rw [tb_ln240]; omega)
theorem tb_p241_0 : tb_ckP prog_14_method_43_code tbI241 0 = true := by decide +kernel
theorem tb_p241_1 : tb_ckP prog_14_method_43_code tbI241 40 = true := by decide +kernel
theorem tb_p241_2 : tb_ckP prog_14_method_43_code tbI241 80 = true := by decide +kernel
theorem tb_p241_3 : tb_ckP prog_14_method_43_code tbI241 120 = true := by decide +kernel
theorem tb_p241_4 : tb_ckP prog_14_method_43_code tbI241 160 = true := by decide +kernel
theorem tb_ln241 : tbI241.length = 184 := by decide +kernel
theorem tb_ckI_241 : tb_ckI prog_14_method_43_code tbI241
  | 0 => tb_p241_0
  | 1 => tb_p241_1
  | 2 => tb_p241_2
  | 3 => tb_p241_3
  | 4 => tb_p241_4
  | j + 5 => tb_ckP_ge (show tbI241.length ≤ 40 * (j + 5) from by rw [tb_ln241]; omega)
theorem tb_p242_0 : tb_ckP prog_14_method_66_code tbI242 0 = true := by decide +kernel
theorem tb_p242_1 : tb_ckP prog_14_method_66_code tbI242 40 = true := by decide +kernel
theorem tb_p242_2 : tb_ckP prog_14_method_66_code tbI242 80 = true := by decide +kernel
theorem tb_p242_3 : tb_ckP prog_14_method_66_code tbI242 120 = true := by decide +kernel
theorem tb_p242_4 : tb_ckP prog_14_method_66_code tbI242 160 = true := by decide +kernel
theorem tb_p242_5 : tb_ckP prog_14_method_66_code tbI242 200 = true := by decide +kernel
theorem tb_p242_6 : tb_ckP prog_14_method_66_code tbI242 240 = true := by decide +kernel
theorem tb_p242_7 : tb_ckP prog_14_method_66_code tbI242 280 = true := by decide +kernel
theorem tb_ln242 : tbI242.length = 287 := by decide +kernel
theorem tb_ckI_242 : tb_ckI prog_14_method_66_code tbI242
  | 0 => tb_p242_0
  | 1 => tb_p242_1
  | 2 => tb_p242_2
  | 3 => tb_p242_3
  | 4 => tb_p242_4
  | 5 => tb_p242_5
  | 6 => tb_p242_6
  | 7 => tb_p242_7
  | j + 8 => tb_ckP_ge (show tbI242.length ≤ 40 * (j + 8) from by rw [tb_ln242]; omega)
theorem tb_p243_0 : tb_ckP prog_14_method_53_code tbI243 0 = true := by decide +kernel
theorem tb_p243_1 : tb_ckP prog_14_method_53_code tbI243 40 = true := by decide +kernel
theorem tb_p243_2 : tb_ckP prog_14_method_53_code tbI243 80 = true := by decide +kernel
theorem tb_ln243 : tbI243.length = 87 := by decide +kernel
theorem tb_ckI_243 : tb_ckI prog_14_method_53_code tbI243
  | 0 => tb_p243_0
  | 1 => tb_p243_1
  | 2 => tb_p243_2
  | j + 3 => tb_ckP_ge (show tbI243.length ≤ 40 * (j + 3) from by rw [tb_ln243]; omega)
theorem tb_p244_0 : tb_ckP prog_14_method_52_code tbI244 0 = true := by decide +kernel
theorem tb_p244_1 : tb_ckP prog_14_method_52_code tbI244 40 = true := by decide +kernel
theorem tb_p244_2 : tb_ckP prog_14_method_52_code tbI244 80 = true := by decide +kernel
theorem tb_p244_3 : tb_ckP prog_14_method_52_code tbI244 120 = true := by decide +kernel
theorem tb_p244_4 : tb_ckP prog_14_method_52_code tbI244 160 = true := by decide +kernel
theorem tb_p244_5 : tb_ckP prog_14_method_52_code tbI244 200 = true := by decide +kernel
theorem tb_ln244 : tbI244.length = 201 := by decide +kernel
theorem tb_ckI_244 : tb_ckI prog_14_method_52_code tbI244
  | 0 => tb_p244_0
  | 1 => tb_p244_1
  | 2 => tb_p244_2
  | 3 => tb_p244_3
  | 4 => tb_p244_4
  | 5 => tb_p244_5
  | j + 6 => tb_ckP_ge (show tbI244.length ≤ 40 * (j + 6) from by rw [tb_ln244]; omega)
theorem tb_p245_0 : tb_ckP prog_14_method_50_code tbI245 0 = true := by decide +kernel
theorem tb_p245_1 : tb_ckP prog_14_method_50_code tbI245 40 = true := by decide +kernel
theorem tb_p245_2 : tb_ckP prog_14_method_50_code tbI245 80 = true := by decide +kernel
theorem tb_p245_3 : tb_ckP prog_14_method_50_code tbI245 120 = true := by decide +kernel
theorem tb_ln245 : tbI245.length = 144 := by decide +kernel
theorem tb_ckI_245 : tb_ckI prog_14_method_50_code tbI245
  | 0 => tb_p245_0
  | 1 => tb_p245_1
  | 2 => tb_p245_2
  | 3 => tb_p245_3
  | j + 4 => tb_ckP_ge (show tbI245.length ≤ 40 * (j + 4) from by rw [tb_ln245]; omega)
theorem tb_p246_0 : tb_ckP prog_14_method_49_code tbI246 0 = true := by decide +kernel
theorem tb_p246_1 : tb_ckP prog_14_method_49_code tbI246 40 = true := by decide +kernel
theorem tb_ln246 : tbI246.length = 52 := by decide +kernel
theorem tb_ckI_246 : tb_ckI prog_14_method_49_code tbI246
  | 0 => tb_p246_0
  | 1 => tb_p246_1
  | j + 2 => tb_ckP_ge (show tbI246.length ≤ 40 * (j + 2) from by rw [tb_ln246]; omega)
theorem tb_p247_0 : tb_ckP prog_14_method_51_code tbI247 0 = true := by decide +kernel
theorem tb_p247_1 : tb_ckP prog_14_method_51_code tbI247 40 = true := by decide +kernel
theorem tb_p247_2 : tb_ckP prog_14_method_51_code tbI247 80 = true := by decide +kernel
theorem tb_ln247 : tbI247.length = 108 := by decide +kernel
theorem tb_ckI_247 : tb_ckI prog_14_method_51_code tbI247
  | 0 => tb_p247_0
  | 1 => tb_p247_1
  | 2 => tb_p247_2
  | j + 3 => tb_ckP_ge (show tbI247.length ≤ 40 * (j + 3) from by rw [tb_ln247]; omega)
theorem tb_p248_0 : tb_ckP prog_14_method_89_code tbI248 0 = true := by decide +kernel
theorem tb_p248_1 : tb_ckP prog_14_method_89_code tbI248 40 = true := by decide +kernel
theorem tb_ln248 : tbI248.length = 55 := by decide +kernel
theorem tb_ckI_248 : tb_ckI prog_14_method_89_code tbI248
  | 0 => tb_p248_0
  | 1 => tb_p248_1
  | j + 2 => tb_ckP_ge (show tbI248.length ≤ 40 * (j + 2) from by rw [tb_ln248]; omega)
theorem tb_p249_0 : tb_ckP prog_14_method_64_code tbI249 0 = true := by decide +kernel
theorem tb_p249_1 : tb_ckP prog_14_method_64_code tbI249 40 = true := by decide +kernel
theorem tb_p249_2 : tb_ckP prog_14_method_64_code tbI249 80 = true := by decide +kernel
theorem tb_p249_3 : tb_ckP prog_14_method_64_code tbI249 120 = true := by decide +kernel
theorem tb_p249_4 : tb_ckP prog_14_method_64_code tbI249 160 = true := by decide +kernel
theorem tb_p249_5 : tb_ckP prog_14_method_64_code tbI249 200 = true := by decide +kernel
theorem tb_p249_6 : tb_ckP prog_14_method_64_code tbI249 240 = true := by decide +kernel
theorem tb_ln249 : tbI249.length = 257 := by decide +kernel
theorem tb_ckI_249 : tb_ckI prog_14_method_64_code tbI249
  | 0 => tb_p249_0
  | 1 => tb_p249_1
  | 2 => tb_p249_2
  | 3 => tb_p249_3
  | 4 => tb_p249_4
  | 5 => tb_p249_5
  | 6 => tb_p249_6
  | j + 7 => tb_ckP_ge (show tbI249.length ≤ 40 * (j + 7) from by rw [tb_ln249]; omega)
theorem tb_p250_0 : tb_ckP prog_14_method_59_code tbI250 0 = true := by decide +kernel
theorem tb_p250_1 : tb_ckP prog_14_method_59_code tbI250 40 = true := by decide +kernel
theorem tb_p250_2 : tb_ckP prog_14_method_59_code tbI250 80 = true := by decide +kernel
theorem tb_ln250 : tbI250.length = 118 := by decide +kernel
theorem tb_ckI_250 : tb_ckI prog_14_method_59_code tbI250
  | 0 => tb_p250_0
  | 1 => tb_p250_1
  | 2 => tb_p250_2
  | j + 3 => tb_ckP_ge (show tbI250.length ≤ 40 * (j + 3) from by rw [tb_ln250]; omega)
