theorem tb_p0_0 : tb_ckP code tbI0 0 = true := by decide +kernel
theorem tb_p0_1 : tb_ckP code tbI0 40 = true := by decide +kernel
theorem tb_p0_2 : tb_ckP code tbI0 80 = true := by decide +kernel
theorem tb_p0_3 : tb_ckP code tbI0 120 = true := by decide +kernel
theorem tb_p0_4 : tb_ckP code tbI0 160 = true := by decide +kernel
theorem tb_p0_5 : tb_ckP code tbI0 200 = true := by decide +kernel
theorem tb_p0_6 : tb_ckP code tbI0 240 = true := by decide +kernel
theorem tb_p0_7 : tb_ckP code tbI0 280 = true := by decide +kernel
theorem tb_p0_8 : tb_ckP code tbI0 320 = true := by decide +kernel
theorem tb_p0_9 : tb_ckP code tbI0 360 = true := by decide +kernel
theorem tb_p0_10 : tb_ckP code tbI0 400 = true := by decide +kernel
theorem tb_p0_11 : tb_ckP code tbI0 440 = true := by decide +kernel
theorem tb_p0_12 : tb_ckP code tbI0 480 = true := by decide +kernel
theorem tb_p0_13 : tb_ckP code tbI0 520 = true := by decide +kernel
theorem tb_p0_14 : tb_ckP code tbI0 560 = true := by decide +kernel
theorem tb_p0_15 : tb_ckP code tbI0 600 = true := by decide +kernel
theorem tb_p0_16 : tb_ckP code tbI0 640 = true := by decide +kernel
theorem tb_p0_17 : tb_ckP code tbI0 680 = true := by decide +kernel
theorem tb_p0_18 : tb_ckP code tbI0 720 = true := by decide +kernel
theorem tb_p0_19 : tb_ckP code tbI0 760 = true := by decide +kernel
theorem tb_p0_20 : tb_ckP code tbI0 800 = true := by decide +kernel
theorem tb_p0_21 : tb_ckP code tbI0 840 = true := by decide +kernel
theorem tb_p0_22 : tb_ckP code tbI0 880 = true := by decide +kernel
theorem tb_p0_23 : tb_ckP code tbI0 920 = true := by decide +kernel
theorem tb_p0_24 : tb_ckP code tbI0 960 = true := by decide +kernel
theorem tb_ckI_0 : tb_ckI code tbI0
  | 0 => tb_p0_0
  | 1 => tb_p0_1
  | 2 => tb_p0_2
  | 3 => tb_p0_3
  | 4 => tb_p0_4
  | 5 => tb_p0_5
  | 6 => tb_p0_6
  | 7 => tb_p0_7
  | 8 => tb_p0_8
  | 9 => tb_p0_9
  | 10 => tb_p0_10
  | 11 => tb_p0_11
  | 12 => tb_p0_12
  | 13 => tb_p0_13
  | 14 => tb_p0_14
  | 15 => tb_p0_15
  | 16 => tb_p0_16
  | 17 => tb_p0_17
  | 18 => tb_p0_18
  | 19 => tb_p0_19
  | 20 => tb_p0_20
  | 21 => tb_p0_21
  | 22 => tb_p0_22
  | 23 => tb_p0_23
  | 24 => tb_p0_24
  | j + 25 => tb_ckP_ge (show tbI0.length ≤ 40 * (j + 25) from by rw [show tbI0.length = 991 from rfl]; omega)
theorem tb_p1_0 : tb_ckP prog_1_method_1_code tbI1 0 = true := by decide +kernel
theorem tb_p1_1 : tb_ckP prog_1_method_1_code tbI1 40 = true := by decide +kernel
theorem tb_p1_2 : tb_ckP prog_1_method_1_code tbI1 80 = true := by decide +kernel
theorem tb_ckI_1 : tb_ckI prog_1_method_1_code tbI1
  | 0 => tb_p1_0
  | 1 => tb_p1_1
  | 2 => tb_p1_2
  | j + 3 => tb_ckP_ge (show tbI1.length ≤ 40 * (j + 3) from by rw [show tbI1.length = 99 from rfl]; omega)
theorem tb_p2_0 : tb_ckP prog_10_method_1_code tbI2 0 = true := by decide +kernel
theorem tb_p2_1 : tb_ckP prog_10_method_1_code tbI2 40 = true := by decide +kernel
theorem tb_ckI_2 : tb_ckI prog_10_method_1_code tbI2
  | 0 => tb_p2_0
  | 1 => tb_p2_1
  | j + 2 => tb_ckP_ge (show tbI2.length ≤ 40 * (j + 2) from by rw [show tbI2.length = 41 from rfl]; omega)
theorem tb_p3_0 : tb_ckP prog_3_method_1_code tbI3 0 = true := by decide +kernel
theorem tb_p3_1 : tb_ckP prog_3_method_1_code tbI3 40 = true := by decide +kernel
theorem tb_ckI_3 : tb_ckI prog_3_method_1_code tbI3
  | 0 => tb_p3_0
  | 1 => tb_p3_1
  | j + 2 => tb_ckP_ge (show tbI3.length ≤ 40 * (j + 2) from by rw [show tbI3.length = 45 from rfl]; omega)
theorem tb_p4_0 : tb_ckP prog_6_method_1_code tbI4 0 = true := by decide +kernel
theorem tb_ckI_4 : tb_ckI prog_6_method_1_code tbI4
  | 0 => tb_p4_0
  | j + 1 => tb_ckP_ge (show tbI4.length ≤ 40 * (j + 1) from by rw [show tbI4.length = 24 from rfl]; omega)
theorem tb_p5_0 : tb_ckP prog_12_method_1_code tbI5 0 = true := by decide +kernel
theorem tb_ckI_5 : tb_ckI prog_12_method_1_code tbI5
  | 0 => tb_p5_0
  | j + 1 => tb_ckP_ge (show tbI5.length ≤ 40 * (j + 1) from by rw [show tbI5.length = 38 from rfl]; omega)
theorem tb_p6_0 : tb_ckP prog_11_method_1_code tbI6 0 = true := by decide +kernel
theorem tb_p6_1 : tb_ckP prog_11_method_1_code tbI6 40 = true := by decide +kernel
theorem tb_ckI_6 : tb_ckI prog_11_method_1_code tbI6
  | 0 => tb_p6_0
  | 1 => tb_p6_1
  | j + 2 => tb_ckP_ge (show tbI6.length ≤ 40 * (j + 2) from by rw [show tbI6.length = 53 from rfl]; omega)
theorem tb_p7_0 : tb_ckP prog_4_method_1_code tbI7 0 = true := by decide +kernel
theorem tb_p7_1 : tb_ckP prog_4_method_1_code tbI7 40 = true := by decide +kernel
theorem tb_ckI_7 : tb_ckI prog_4_method_1_code tbI7
  | 0 => tb_p7_0
  | 1 => tb_p7_1
  | j + 2 => tb_ckP_ge (show tbI7.length ≤ 40 * (j + 2) from by rw [show tbI7.length = 71 from rfl]; omega)
theorem tb_p8_0 : tb_ckP prog_9_method_1_code tbI8 0 = true := by decide +kernel
theorem tb_p8_1 : tb_ckP prog_9_method_1_code tbI8 40 = true := by decide +kernel
theorem tb_ckI_8 : tb_ckI prog_9_method_1_code tbI8
  | 0 => tb_p8_0
  | 1 => tb_p8_1
  | j + 2 => tb_ckP_ge (show tbI8.length ≤ 40 * (j + 2) from by rw [show tbI8.length = 59 from rfl]; omega)
theorem tb_p9_0 : tb_ckP prog_1_method_2_code tbI9 0 = true := by decide +kernel
theorem tb_ckI_9 : tb_ckI prog_1_method_2_code tbI9
  | 0 => tb_p9_0
  | j + 1 => tb_ckP_ge (show tbI9.length ≤ 40 * (j + 1) from by rw [show tbI9.length = 38 from rfl]; omega)
theorem tb_p10_0 : tb_ckP prog_10_method_2_code tbI10 0 = true := by decide +kernel
theorem tb_p10_1 : tb_ckP prog_10_method_2_code tbI10 40 = true := by decide +kernel
theorem tb_ckI_10 : tb_ckI prog_10_method_2_code tbI10
  | 0 => tb_p10_0
  | 1 => tb_p10_1
  | j + 2 => tb_ckP_ge (show tbI10.length ≤ 40 * (j + 2) from by rw [show tbI10.length = 60 from rfl]; omega)
theorem tb_p11_0 : tb_ckP prog_1_method_3_code tbI11 0 = true := by decide +kernel
theorem tb_p11_1 : tb_ckP prog_1_method_3_code tbI11 40 = true := by decide +kernel
theorem tb_p11_2 : tb_ckP prog_1_method_3_code tbI11 80 = true := by decide +kernel
theorem tb_p11_3 : tb_ckP prog_1_method_3_code tbI11 120 = true := by decide +kernel
theorem tb_ckI_11 : tb_ckI prog_1_method_3_code tbI11
  | 0 => tb_p11_0
  | 1 => tb_p11_1
  | 2 => tb_p11_2
  | 3 => tb_p11_3
  | j + 4 => tb_ckP_ge (show tbI11.length ≤ 40 * (j + 4) from by rw [show tbI11.length = 141 from rfl]; omega)
theorem tb_p12_0 : tb_ckP prog_6_method_4_code tbI12 0 = true := by decide +kernel
theorem tb_p12_1 : tb_ckP prog_6_method_4_code tbI12 40 = true := by decide +kernel
theorem tb_p12_2 : tb_ckP prog_6_method_4_code tbI12 80 = true := by decide +kernel
theorem tb_p12_3 : tb_ckP prog_6_method_4_code tbI12 120 = true := by decide +kernel
theorem tb_ckI_12 : tb_ckI prog_6_method_4_code tbI12
  | 0 => tb_p12_0
  | 1 => tb_p12_1
  | 2 => tb_p12_2
  | 3 => tb_p12_3
  | j + 4 => tb_ckP_ge (show tbI12.length ≤ 40 * (j + 4) from by rw [show tbI12.length = 128 from rfl]; omega)
theorem tb_p13_0 : tb_ckP prog_6_method_6_code tbI13 0 = true := by decide +kernel
theorem tb_ckI_13 : tb_ckI prog_6_method_6_code tbI13
  | 0 => tb_p13_0
  | j + 1 => tb_ckP_ge (show tbI13.length ≤ 40 * (j + 1) from by rw [show tbI13.length = 18 from rfl]; omega)
theorem tb_p14_0 : tb_ckP prog_10_method_3_code tbI14 0 = true := by decide +kernel
theorem tb_p14_1 : tb_ckP prog_10_method_3_code tbI14 40 = true := by decide +kernel
theorem tb_p14_2 : tb_ckP prog_10_method_3_code tbI14 80 = true := by decide +kernel
theorem tb_ckI_14 : tb_ckI prog_10_method_3_code tbI14
  | 0 => tb_p14_0
  | 1 => tb_p14_1
  | 2 => tb_p14_2
  | j + 3 => tb_ckP_ge (show tbI14.length ≤ 40 * (j + 3) from by rw [show tbI14.length = 88 from rfl]; omega)
theorem tb_p15_0 : tb_ckP prog_10_method_4_code tbI15 0 = true := by decide +kernel
theorem tb_ckI_15 : tb_ckI prog_10_method_4_code tbI15
  | 0 => tb_p15_0
  | j + 1 => tb_ckP_ge (show tbI15.length ≤ 40 * (j + 1) from by rw [show tbI15.length = 40 from rfl]; omega)
theorem tb_p16_0 : tb_ckP prog_10_method_5_code tbI16 0 = true := by decide +kernel
theorem tb_p16_1 : tb_ckP prog_10_method_5_code tbI16 40 = true := by decide +kernel
theorem tb_p16_2 : tb_ckP prog_10_method_5_code tbI16 80 = true := by decide +kernel
theorem tb_p16_3 : tb_ckP prog_10_method_5_code tbI16 120 = true := by decide +kernel
theorem tb_p16_4 : tb_ckP prog_10_method_5_code tbI16 160 = true := by decide +kernel
theorem tb_ckI_16 : tb_ckI prog_10_method_5_code tbI16
  | 0 => tb_p16_0
  | 1 => tb_p16_1
  | 2 => tb_p16_2
  | 3 => tb_p16_3
  | 4 => tb_p16_4
  | j + 5 => tb_ckP_ge (show tbI16.length ≤ 40 * (j + 5) from by rw [show tbI16.length = 171 from rfl]; omega)
theorem tb_p17_0 : tb_ckP prog_10_method_9_code tbI17 0 = true := by decide +kernel
theorem tb_p17_1 : tb_ckP prog_10_method_9_code tbI17 40 = true := by decide +kernel
theorem tb_ckI_17 : tb_ckI prog_10_method_9_code tbI17
  | 0 => tb_p17_0
  | 1 => tb_p17_1
  | j + 2 => tb_ckP_ge (show tbI17.length ≤ 40 * (j + 2) from by rw [show tbI17.length = 53 from rfl]; omega)
theorem tb_p18_0 : tb_ckP prog_10_method_12_code tbI18 0 = true := by decide +kernel
theorem tb_ckI_18 : tb_ckI prog_10_method_12_code tbI18
  | 0 => tb_p18_0
  | j + 1 => tb_ckP_ge (show tbI18.length ≤ 40 * (j + 1) from by rw [show tbI18.length = 18 from rfl]; omega)
theorem tb_p19_0 : tb_ckP prog_10_method_6_code tbI19 0 = true := by decide +kernel
theorem tb_p19_1 : tb_ckP prog_10_method_6_code tbI19 40 = true := by decide +kernel
theorem tb_p19_2 : tb_ckP prog_10_method_6_code tbI19 80 = true := by decide +kernel
theorem tb_ckI_19 : tb_ckI prog_10_method_6_code tbI19
  | 0 => tb_p19_0
  | 1 => tb_p19_1
  | 2 => tb_p19_2
  | j + 3 => tb_ckP_ge (show tbI19.length ≤ 40 * (j + 3) from by rw [show tbI19.length = 94 from rfl]; omega)
theorem tb_p20_0 : tb_ckP prog_10_method_13_code tbI20 0 = true := by decide +kernel
theorem tb_ckI_20 : tb_ckI prog_10_method_13_code tbI20
  | 0 => tb_p20_0
  | j + 1 => tb_ckP_ge (show tbI20.length ≤ 40 * (j + 1) from by rw [show tbI20.length = 18 from rfl]; omega)
theorem tb_p21_0 : tb_ckP prog_10_method_10_code tbI21 0 = true := by decide +kernel
theorem tb_ckI_21 : tb_ckI prog_10_method_10_code tbI21
  | 0 => tb_p21_0
  | j + 1 => tb_ckP_ge (show tbI21.length ≤ 40 * (j + 1) from by rw [show tbI21.length = 33 from rfl]; omega)
theorem tb_p22_0 : tb_ckP prog_10_method_11_code tbI22 0 = true := by decide +kernel
theorem tb_ckI_22 : tb_ckI prog_10_method_11_code tbI22
  | 0 => tb_p22_0
  | j + 1 => tb_ckP_ge (show tbI22.length ≤ 40 * (j + 1) from by rw [show tbI22.length = 36 from rfl]; omega)
theorem tb_p23_0 : tb_ckP prog_10_method_7_code tbI23 0 = true := by decide +kernel
theorem tb_p23_1 : tb_ckP prog_10_method_7_code tbI23 40 = true := by decide +kernel
theorem tb_p23_2 : tb_ckP prog_10_method_7_code tbI23 80 = true := by decide +kernel
theorem tb_ckI_23 : tb_ckI prog_10_method_7_code tbI23
  | 0 => tb_p23_0
  | 1 => tb_p23_1
  | 2 => tb_p23_2
  | j + 3 => tb_ckP_ge (show tbI23.length ≤ 40 * (j + 3) from by rw [show tbI23.length = 84 from rfl]; omega)
theorem tb_p24_0 : tb_ckP prog_10_method_8_code tbI24 0 = true := by decide +kernel
theorem tb_p24_1 : tb_ckP prog_10_method_8_code tbI24 40 = true := by decide +kernel
theorem tb_p24_2 : tb_ckP prog_10_method_8_code tbI24 80 = true := by decide +kernel
theorem tb_ckI_24 : tb_ckI prog_10_method_8_code tbI24
  | 0 => tb_p24_0
  | 1 => tb_p24_1
  | 2 => tb_p24_2
  | j + 3 => tb_ckP_ge (show tbI24.length ≤ 40 * (j + 3) from by rw [show tbI24.length = 100 from rfl]; omega)
theorem tb_p25_0 : tb_ckP prog_10_method_16_code tbI25 0 = true := by decide +kernel
theorem tb_p25_1 : tb_ckP prog_10_method_16_code tbI25 40 = true := by decide +kernel
theorem tb_ckI_25 : tb_ckI prog_10_method_16_code tbI25
  | 0 => tb_p25_0
  | 1 => tb_p25_1
  | j + 2 => tb_ckP_ge (show tbI25.length ≤ 40 * (j + 2) from by rw [show tbI25.length = 63 from rfl]; omega)
theorem tb_p26_0 : tb_ckP prog_6_method_10_code tbI26 0 = true := by decide +kernel
theorem tb_p26_1 : tb_ckP prog_6_method_10_code tbI26 40 = true := by decide +kernel
theorem tb_p26_2 : tb_ckP prog_6_method_10_code tbI26 80 = true := by decide +kernel
theorem tb_p26_3 : tb_ckP prog_6_method_10_code tbI26 120 = true := by decide +kernel
theorem tb_ckI_26 : tb_ckI prog_6_method_10_code tbI26
  | 0 => tb_p26_0
  | 1 => tb_p26_1
  | 2 => tb_p26_2
  | 3 => tb_p26_3
  | j + 4 => tb_ckP_ge (show tbI26.length ≤ 40 * (j + 4) from by rw [show tbI26.length = 151 from rfl]; omega)
theorem tb_p27_0 : tb_ckP prog_6_method_8_code tbI27 0 = true := by decide +kernel
theorem tb_ckI_27 : tb_ckI prog_6_method_8_code tbI27
  | 0 => tb_p27_0
  | j + 1 => tb_ckP_ge (show tbI27.length ≤ 40 * (j + 1) from by rw [show tbI27.length = 35 from rfl]; omega)
theorem tb_p28_0 : tb_ckP prog_3_method_3_code tbI28 0 = true := by decide +kernel
theorem tb_ckI_28 : tb_ckI prog_3_method_3_code tbI28
  | 0 => tb_p28_0
  | j + 1 => tb_ckP_ge (show tbI28.length ≤ 40 * (j + 1) from by rw [show tbI28.length = 31 from rfl]; omega)
theorem tb_p29_0 : tb_ckP prog_3_method_4_code tbI29 0 = true := by decide +kernel
theorem tb_p29_1 : tb_ckP prog_3_method_4_code tbI29 40 = true := by decide +kernel
theorem tb_ckI_29 : tb_ckI prog_3_method_4_code tbI29
  | 0 => tb_p29_0
  | 1 => tb_p29_1
  | j + 2 => tb_ckP_ge (show tbI29.length ≤ 40 * (j + 2) from by rw [show tbI29.length = 68 from rfl]; omega)
theorem tb_p30_0 : tb_ckP prog_6_method_11_code tbI30 0 = true := by decide +kernel
theorem tb_p30_1 : tb_ckP prog_6_method_11_code tbI30 40 = true := by decide +kernel
theorem tb_p30_2 : tb_ckP prog_6_method_11_code tbI30 80 = true := by decide +kernel
theorem tb_ckI_30 : tb_ckI prog_6_method_11_code tbI30
  | 0 => tb_p30_0
  | 1 => tb_p30_1
  | 2 => tb_p30_2
  | j + 3 => tb_ckP_ge (show tbI30.length ≤ 40 * (j + 3) from by rw [show tbI30.length = 106 from rfl]; omega)
theorem tb_p31_0 : tb_ckP prog_3_method_7_code tbI31 0 = true := by decide +kernel
theorem tb_ckI_31 : tb_ckI prog_3_method_7_code tbI31
  | 0 => tb_p31_0
  | j + 1 => tb_ckP_ge (show tbI31.length ≤ 40 * (j + 1) from by rw [show tbI31.length = 23 from rfl]; omega)
theorem tb_p32_0 : tb_ckP prog_3_method_9_code tbI32 0 = true := by decide +kernel
theorem tb_ckI_32 : tb_ckI prog_3_method_9_code tbI32
  | 0 => tb_p32_0
  | j + 1 => tb_ckP_ge (show tbI32.length ≤ 40 * (j + 1) from by rw [show tbI32.length = 27 from rfl]; omega)
theorem tb_p33_0 : tb_ckP prog_3_method_5_code tbI33 0 = true := by decide +kernel
theorem tb_ckI_33 : tb_ckI prog_3_method_5_code tbI33
  | 0 => tb_p33_0
  | j + 1 => tb_ckP_ge (show tbI33.length ≤ 40 * (j + 1) from by rw [show tbI33.length = 31 from rfl]; omega)
theorem tb_p34_0 : tb_ckP prog_3_method_2_code tbI34 0 = true := by decide +kernel
theorem tb_ckI_34 : tb_ckI prog_3_method_2_code tbI34
  | 0 => tb_p34_0
  | j + 1 => tb_ckP_ge (show tbI34.length ≤ 40 * (j + 1) from by rw [show tbI34.length = 18 from rfl]; omega)
theorem tb_p35_0 : tb_ckP prog_6_method_12_code tbI35 0 = true := by decide +kernel
theorem tb_p35_1 : tb_ckP prog_6_method_12_code tbI35 40 = true := by decide +kernel
theorem tb_p35_2 : tb_ckP prog_6_method_12_code tbI35 80 = true := by decide +kernel
theorem tb_ckI_35 : tb_ckI prog_6_method_12_code tbI35
  | 0 => tb_p35_0
  | 1 => tb_p35_1
  | 2 => tb_p35_2
  | j + 3 => tb_ckP_ge (show tbI35.length ≤ 40 * (j + 3) from by rw [show tbI35.length = 82 from rfl]; omega)
theorem tb_p36_0 : tb_ckP prog_6_method_13_code tbI36 0 = true := by decide +kernel
theorem tb_p36_1 : tb_ckP prog_6_method_13_code tbI36 40 = true := by decide +kernel
theorem tb_p36_2 : tb_ckP prog_6_method_13_code tbI36 80 = true := by decide +kernel
theorem tb_ckI_36 : tb_ckI prog_6_method_13_code tbI36
  | 0 => tb_p36_0
  | 1 => tb_p36_1
  | 2 => tb_p36_2
  | j + 3 => tb_ckP_ge (show tbI36.length ≤ 40 * (j + 3) from by rw [show tbI36.length = 93 from rfl]; omega)
theorem tb_p37_0 : tb_ckP prog_3_method_6_code tbI37 0 = true := by decide +kernel
theorem tb_p37_1 : tb_ckP prog_3_method_6_code tbI37 40 = true := by decide +kernel
theorem tb_ckI_37 : tb_ckI prog_3_method_6_code tbI37
  | 0 => tb_p37_0
  | 1 => tb_p37_1
  | j + 2 => tb_ckP_ge (show tbI37.length ≤ 40 * (j + 2) from by rw [show tbI37.length = 45 from rfl]; omega)
theorem tb_p38_0 : tb_ckP prog_6_method_9_code tbI38 0 = true := by decide +kernel
theorem tb_ckI_38 : tb_ckI prog_6_method_9_code tbI38
  | 0 => tb_p38_0
  | j + 1 => tb_ckP_ge (show tbI38.length ≤ 40 * (j + 1) from by rw [show tbI38.length = 26 from rfl]; omega)
theorem tb_p39_0 : tb_ckP prog_6_method_15_code tbI39 0 = true := by decide +kernel
theorem tb_p39_1 : tb_ckP prog_6_method_15_code tbI39 40 = true := by decide +kernel
theorem tb_p39_2 : tb_ckP prog_6_method_15_code tbI39 80 = true := by decide +kernel
theorem tb_p39_3 : tb_ckP prog_6_method_15_code tbI39 120 = true := by decide +kernel
theorem tb_ckI_39 : tb_ckI prog_6_method_15_code tbI39
  | 0 => tb_p39_0
  | 1 => tb_p39_1
  | 2 => tb_p39_2
  | 3 => tb_p39_3
  | j + 4 => tb_ckP_ge (show tbI39.length ≤ 40 * (j + 4) from by rw [show tbI39.length = 132 from rfl]; omega)
theorem tb_p40_0 : tb_ckP prog_6_method_14_code tbI40 0 = true := by decide +kernel
theorem tb_ckI_40 : tb_ckI prog_6_method_14_code tbI40
  | 0 => tb_p40_0
  | j + 1 => tb_ckP_ge (show tbI40.length ≤ 40 * (j + 1) from by rw [show tbI40.length = 34 from rfl]; omega)
theorem tb_p41_0 : tb_ckP prog_2_method_1_code tbI41 0 = true := by decide +kernel
theorem tb_p41_1 : tb_ckP prog_2_method_1_code tbI41 40 = true := by decide +kernel
theorem tb_ckI_41 : tb_ckI prog_2_method_1_code tbI41
  | 0 => tb_p41_0
  | 1 => tb_p41_1
  | j + 2 => tb_ckP_ge (show tbI41.length ≤ 40 * (j + 2) from by rw [show tbI41.length = 62 from rfl]; omega)
theorem tb_p42_0 : tb_ckP prog_6_method_16_code tbI42 0 = true := by decide +kernel
theorem tb_p42_1 : tb_ckP prog_6_method_16_code tbI42 40 = true := by decide +kernel
theorem tb_p42_2 : tb_ckP prog_6_method_16_code tbI42 80 = true := by decide +kernel
theorem tb_ckI_42 : tb_ckI prog_6_method_16_code tbI42
  | 0 => tb_p42_0
  | 1 => tb_p42_1
  | 2 => tb_p42_2
  | j + 3 => tb_ckP_ge (show tbI42.length ≤ 40 * (j + 3) from by rw [show tbI42.length = 99 from rfl]; omega)
theorem tb_p43_0 : tb_ckP prog_2_method_2_code tbI43 0 = true := by decide +kernel
theorem tb_p43_1 : tb_ckP prog_2_method_2_code tbI43 40 = true := by decide +kernel
theorem tb_ckI_43 : tb_ckI prog_2_method_2_code tbI43
  | 0 => tb_p43_0
  | 1 => tb_p43_1
  | j + 2 => tb_ckP_ge (show tbI43.length ≤ 40 * (j + 2) from by rw [show tbI43.length = 41 from rfl]; omega)
theorem tb_p44_0 : tb_ckP prog_2_method_4_code tbI44 0 = true := by decide +kernel
theorem tb_p44_1 : tb_ckP prog_2_method_4_code tbI44 40 = true := by decide +kernel
theorem tb_p44_2 : tb_ckP prog_2_method_4_code tbI44 80 = true := by decide +kernel
theorem tb_p44_3 : tb_ckP prog_2_method_4_code tbI44 120 = true := by decide +kernel
theorem tb_ckI_44 : tb_ckI prog_2_method_4_code tbI44
  | 0 => tb_p44_0
  | 1 => tb_p44_1
  | 2 => tb_p44_2
  | 3 => tb_p44_3
  | j + 4 => tb_ckP_ge (show tbI44.length ≤ 40 * (j + 4) from by rw [show tbI44.length = 121 from rfl]; omega)
theorem tb_p45_0 : tb_ckP prog_6_method_17_code tbI45 0 = true := by decide +kernel
theorem tb_p45_1 : tb_ckP prog_6_method_17_code tbI45 40 = true := by decide +kernel
theorem tb_p45_2 : tb_ckP prog_6_method_17_code tbI45 80 = true := by decide +kernel
theorem tb_p45_3 : tb_ckP prog_6_method_17_code tbI45 120 = true := by decide +kernel
theorem tb_ckI_45 : tb_ckI prog_6_method_17_code tbI45
  | 0 => tb_p45_0
  | 1 => tb_p45_1
  | 2 => tb_p45_2
  | 3 => tb_p45_3
  | j + 4 => tb_ckP_ge (show tbI45.length ≤ 40 * (j + 4) from by rw [show tbI45.length = 132 from rfl]; omega)
theorem tb_p46_0 : tb_ckP prog_8_method_1_code tbI46 0 = true := by decide +kernel
theorem tb_p46_1 : tb_ckP prog_8_method_1_code tbI46 40 = true := by decide +kernel
theorem tb_p46_2 : tb_ckP prog_8_method_1_code tbI46 80 = true := by decide +kernel
theorem tb_ckI_46 : tb_ckI prog_8_method_1_code tbI46
  | 0 => tb_p46_0
  | 1 => tb_p46_1
  | 2 => tb_p46_2
  | j + 3 => tb_ckP_ge (show tbI46.length ≤ 40 * (j + 3) from by rw [show tbI46.length = 84 from rfl]; omega)
theorem tb_p47_0 : tb_ckP prog_6_method_18_code tbI47 0 = true := by decide +kernel
theorem tb_p47_1 : tb_ckP prog_6_method_18_code tbI47 40 = true := by decide +kernel
theorem tb_p47_2 : tb_ckP prog_6_method_18_code tbI47 80 = true := by decide +kernel
theorem tb_p47_3 : tb_ckP prog_6_method_18_code tbI47 120 = true := by decide +kernel
theorem tb_ckI_47 : tb_ckI prog_6_method_18_code tbI47
  | 0 => tb_p47_0
  | 1 => tb_p47_1
  | 2 => tb_p47_2
  | 3 => tb_p47_3
  | j + 4 => tb_ckP_ge (show tbI47.length ≤ 40 * (j + 4) from by rw [show tbI47.length = 140 from rfl]; omega)
theorem tb_p48_0 : tb_ckP prog_6_method_19_code tbI48 0 = true := by decide +kernel
theorem tb_ckI_48 : tb_ckI prog_6_method_19_code tbI48
  | 0 => tb_p48_0
  | j + 1 => tb_ckP_ge (show tbI48.length ≤ 40 * (j + 1) from by rw [show tbI48.length = 28 from rfl]; omega)
theorem tb_p49_0 : tb_ckP prog_6_method_20_code tbI49 0 = true := by decide +kernel
theorem tb_p49_1 : tb_ckP prog_6_method_20_code tbI49 40 = true := by decide +kernel
theorem tb_p49_2 : tb_ckP prog_6_method_20_code tbI49 80 = true := by decide +kernel
theorem tb_p49_3 : tb_ckP prog_6_method_20_code tbI49 120 = true := by decide +kernel
theorem tb_p49_4 : tb_ckP prog_6_method_20_code tbI49 160 = true := by decide +kernel
theorem tb_p49_5 : tb_ckP prog_6_method_20_code tbI49 200 = true := by decide +kernel
theorem tb_p49_6 : tb_ckP prog_6_method_20_code tbI49 240 = true := by decide +kernel
theorem tb_ckI_49 : tb_ckI prog_6_method_20_code tbI49
  | 0 => tb_p49_0
  | 1 => tb_p49_1
  | 2 => tb_p49_2
  | 3 => tb_p49_3
  | 4 => tb_p49_4
  | 5 => tb_p49_5
  | 6 => tb_p49_6
  | j + 7 => tb_ckP_ge (show tbI49.length ≤ 40 * (j + 7) from by rw [show tbI49.length = 241 from rfl]; omega)
theorem tb_p50_0 : tb_ckP prog_6_method_21_code tbI50 0 = true := by decide +kernel
theorem tb_p50_1 : tb_ckP prog_6_method_21_code tbI50 40 = true := by decide +kernel
theorem tb_p50_2 : tb_ckP prog_6_method_21_code tbI50 80 = true := by decide +kernel
theorem tb_p50_3 : tb_ckP prog_6_method_21_code tbI50 120 = true := by decide +kernel
theorem tb_p50_4 : tb_ckP prog_6_method_21_code tbI50 160 = true := by decide +kernel
theorem tb_ckI_50 : tb_ckI prog_6_method_21_code tbI50
  | 0 => tb_p50_0
  | 1 => tb_p50_1
  | 2 => tb_p50_2
  | 3 => tb_p50_3
  | 4 => tb_p50_4
  | j + 5 => tb_ckP_ge (show tbI50.length ≤ 40 * (j + 5) from by rw [show tbI50.length = 199 from rfl]; omega)
theorem tb_p51_0 : tb_ckP prog_8_method_4_code tbI51 0 = true := by decide +kernel
theorem tb_p51_1 : tb_ckP prog_8_method_4_code tbI51 40 = true := by decide +kernel
theorem tb_ckI_51 : tb_ckI prog_8_method_4_code tbI51
  | 0 => tb_p51_0
  | 1 => tb_p51_1
  | j + 2 => tb_ckP_ge (show tbI51.length ≤ 40 * (j + 2) from by rw [show tbI51.length = 60 from rfl]; omega)
theorem tb_p52_0 : tb_ckP prog_3_method_12_code tbI52 0 = true := by decide +kernel
theorem tb_ckI_52 : tb_ckI prog_3_method_12_code tbI52
  | 0 => tb_p52_0
  | j + 1 => tb_ckP_ge (show tbI52.length ≤ 40 * (j + 1) from by rw [show tbI52.length = 33 from rfl]; omega)
theorem tb_p53_0 : tb_ckP prog_3_method_11_code tbI53 0 = true := by decide +kernel
theorem tb_p53_1 : tb_ckP prog_3_method_11_code tbI53 40 = true := by decide +kernel
theorem tb_ckI_53 : tb_ckI prog_3_method_11_code tbI53
  | 0 => tb_p53_0
  | 1 => tb_p53_1
  | j + 2 => tb_ckP_ge (show tbI53.length ≤ 40 * (j + 2) from by rw [show tbI53.length = 46 from rfl]; omega)
theorem tb_p54_0 : tb_ckP prog_6_method_22_code tbI54 0 = true := by decide +kernel
theorem tb_p54_1 : tb_ckP prog_6_method_22_code tbI54 40 = true := by decide +kernel
theorem tb_p54_2 : tb_ckP prog_6_method_22_code tbI54 80 = true := by decide +kernel
theorem tb_p54_3 : tb_ckP prog_6_method_22_code tbI54 120 = true := by decide +kernel
theorem tb_ckI_54 : tb_ckI prog_6_method_22_code tbI54
  | 0 => tb_p54_0
  | 1 => tb_p54_1
  | 2 => tb_p54_2
  | 3 => tb_p54_3
  | j + 4 => tb_ckP_ge (show tbI54.length ≤ 40 * (j + 4) from by rw [show tbI54.length = 153 from rfl]; omega)
theorem tb_p55_0 : tb_ckP prog_10_method_14_code tbI55 0 = true := by decide +kernel
theorem tb_ckI_55 : tb_ckI prog_10_method_14_code tbI55
  | 0 => tb_p55_0
  | j + 1 => tb_ckP_ge (show tbI55.length ≤ 40 * (j + 1) from by rw [show tbI55.length = 21 from rfl]; omega)
theorem tb_p56_0 : tb_ckP prog_10_method_15_code tbI56 0 = true := by decide +kernel
theorem tb_ckI_56 : tb_ckI prog_10_method_15_code tbI56
  | 0 => tb_p56_0
  | j + 1 => tb_ckP_ge (show tbI56.length ≤ 40 * (j + 1) from by rw [show tbI56.length = 21 from rfl]; omega)
