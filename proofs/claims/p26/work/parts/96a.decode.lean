theorem tb_p0_0 : tb_ckP code tbI0 0 = true := by decide +kernel
theorem tb_p0_1 : tb_ckP code tbI0 40 = true := by decide +kernel
theorem tb_p0_2 : tb_ckP code tbI0 80 = true := by decide +kernel
theorem tb_p0_3 : tb_ckP code tbI0 120 = true := by decide +kernel
theorem tb_p0_4 : tb_ckP code tbI0 160 = true := by decide +kernel
theorem tb_p0_5 : tb_ckP code tbI0 200 = true := by decide +kernel
theorem tb_p0_6 : tb_ckP code tbI0 240 = true := by decide +kernel
theorem tb_p0_7 : tb_ckP code tbI0 280 = true := by decide +kernel
theorem tb_p0_8 : tb_ckP code tbI0 320 = true := by decide +kernel
theorem tb_p0_9 : tb_ckP code tbI0 360 = true := by decide +kernel
theorem tb_p0_10 : tb_ckP code tbI0 400 = true := by decide +kernel
theorem tb_p0_11 : tb_ckP code tbI0 440 = true := by decide +kernel
theorem tb_p0_12 : tb_ckP code tbI0 480 = true := by decide +kernel
theorem tb_p0_13 : tb_ckP code tbI0 520 = true := by decide +kernel
theorem tb_p0_14 : tb_ckP code tbI0 560 = true := by decide +kernel
theorem tb_p0_15 : tb_ckP code tbI0 600 = true := by decide +kernel
theorem tb_p0_16 : tb_ckP code tbI0 640 = true := by decide +kernel
theorem tb_p0_17 : tb_ckP code tbI0 680 = true := by decide +kernel
theorem tb_p0_18 : tb_ckP code tbI0 720 = true := by decide +kernel
theorem tb_p0_19 : tb_ckP code tbI0 760 = true := by decide +kernel
theorem tb_p0_20 : tb_ckP code tbI0 800 = true := by decide +kernel
theorem tb_p0_21 : tb_ckP code tbI0 840 = true := by decide +kernel
theorem tb_p0_22 : tb_ckP code tbI0 880 = true := by decide +kernel
theorem tb_p0_23 : tb_ckP code tbI0 920 = true := by decide +kernel
theorem tb_p0_24 : tb_ckP code tbI0 960 = true := by decide +kernel
theorem tb_ln0 : tbI0.length = 991 := by decide +kernel
theorem tb_ckI_0 : tb_ckI code tbI0
  | 0 => tb_p0_0
  | 1 => tb_p0_1
  | 2 => tb_p0_2
  | 3 => tb_p0_3
  | 4 => tb_p0_4
  | 5 => tb_p0_5
  | 6 => tb_p0_6
  | 7 => tb_p0_7
  | 8 => tb_p0_8
  | 9 => tb_p0_9
  | 10 => tb_p0_10
  | 11 => tb_p0_11
  | 12 => tb_p0_12
  | 13 => tb_p0_13
  | 14 => tb_p0_14
  | 15 => tb_p0_15
  | 16 => tb_p0_16
  | 17 => tb_p0_17
  | 18 => tb_p0_18
  | 19 => tb_p0_19
  | 20 => tb_p0_20
  | 21 => tb_p0_21
  | 22 => tb_p0_22
  | 23 => tb_p0_23
  | 24 => tb_p0_24
  | j + 25 => tb_ckP_ge (show tbI0.length ≤ 40 * (j + 25) from by rw [tb_ln0]; omega)
theorem tb_p1_0 : tb_ckP prog_1_method_1_code tbI1 0 = true := by decide +kernel
theorem tb_p1_1 : tb_ckP prog_1_method_1_code tbI1 40 = true := by decide +kernel
theorem tb_p1_2 : tb_ckP prog_1_method_1_code tbI1 80 = true := by decide +kernel
theorem tb_ln1 : tbI1.length = 99 := by decide +kernel
theorem tb_ckI_1 : tb_ckI prog_1_method_1_code tbI1
  | 0 => tb_p1_0
  | 1 => tb_p1_1
  | 2 => tb_p1_2
  | j + 3 => tb_ckP_ge (show tbI1.length ≤ 40 * (j + 3) from by rw [tb_ln1]; omega)
theorem tb_p2_0 : tb_ckP prog_10_method_1_code tbI2 0 = true := by decide +kernel
theorem tb_p2_1 : tb_ckP prog_10_method_1_code tbI2 40 = true := by decide +kernel
theorem tb_ln2 : tbI2.length = 41 := by decide +kernel
theorem tb_ckI_2 : tb_ckI prog_10_method_1_code tbI2
  | 0 => tb_p2_0
  | 1 => tb_p2_1
  | j + 2 => tb_ckP_ge (show tbI2.length ≤ 40 * (j + 2) from by rw [tb_ln2]; omega)
theorem tb_p3_0 : tb_ckP prog_3_method_1_code tbI3 0 = true := by decide +kernel
theorem tb_p3_1 : tb_ckP prog_3_method_1_code tbI3 40 = true := by decide +kernel
theorem tb_ln3 : tbI3.length = 45 := by decide +kernel
theorem tb_ckI_3 : tb_ckI prog_3_method_1_code tbI3
  | 0 => tb_p3_0
  | 1 => tb_p3_1
  | j + 2 => tb_ckP_ge (show tbI3.length ≤ 40 * (j + 2) from by rw [tb_ln3]; omega)
theorem tb_p4_0 : tb_ckP prog_6_method_1_code tbI4 0 = true := by decide +kernel
theorem tb_ln4 : tbI4.length = 24 := by decide +kernel
theorem tb_ckI_4 : tb_ckI prog_6_method_1_code tbI4
  | 0 => tb_p4_0
  | j + 1 => tb_ckP_ge (show tbI4.length ≤ 40 * (j + 1) from by rw [tb_ln4]; omega)
theorem tb_p5_0 : tb_ckP prog_12_method_1_code tbI5 0 = true := by decide +kernel
theorem tb_ln5 : tbI5.length = 38 := by decide +kernel
theorem tb_ckI_5 : tb_ckI prog_12_method_1_code tbI5
  | 0 => tb_p5_0
  | j + 1 => tb_ckP_ge (show tbI5.length ≤ 40 * (j + 1) from by rw [tb_ln5]; omega)
theorem tb_p6_0 : tb_ckP prog_11_method_1_code tbI6 0 = true := by decide +kernel
theorem tb_p6_1 : tb_ckP prog_11_method_1_code tbI6 40 = true := by decide +kernel
theorem tb_ln6 : tbI6.length = 53 := by decide +kernel
theorem tb_ckI_6 : tb_ckI prog_11_method_1_code tbI6
  | 0 => tb_p6_0
  | 1 => tb_p6_1
  | j + 2 => tb_ckP_ge (show tbI6.length ≤ 40 * (j + 2) from by rw [tb_ln6]; omega)
theorem tb_p7_0 : tb_ckP prog_4_method_1_code tbI7 0 = true := by decide +kernel
theorem tb_p7_1 : tb_ckP prog_4_method_1_code tbI7 40 = true := by decide +kernel
theorem tb_ln7 : tbI7.length = 71 := by decide +kernel
theorem tb_ckI_7 : tb_ckI prog_4_method_1_code tbI7
  | 0 => tb_p7_0
  | 1 => tb_p7_1
  | j + 2 => tb_ckP_ge (show tbI7.length ≤ 40 * (j + 2) from by rw [tb_ln7]; omega)
theorem tb_p8_0 : tb_ckP prog_9_method_1_code tbI8 0 = true := by decide +kernel
theorem tb_p8_1 : tb_ckP prog_9_method_1_code tbI8 40 = true := by decide +kernel
theorem tb_ln8 : tbI8.length = 59 := by decide +kernel
theorem tb_ckI_8 : tb_ckI prog_9_method_1_code tbI8
  | 0 => tb_p8_0
  | 1 => tb_p8_1
  | j + 2 => tb_ckP_ge (show tbI8.length ≤ 40 * (j + 2) from by rw [tb_ln8]; omega)
theorem tb_p9_0 : tb_ckP prog_1_method_2_code tbI9 0 = true := by decide +kernel
theorem tb_ln9 : tbI9.length = 38 := by decide +kernel
theorem tb_ckI_9 : tb_ckI prog_1_method_2_code tbI9
  | 0 => tb_p9_0
  | j + 1 => tb_ckP_ge (show tbI9.length ≤ 40 * (j + 1) from by rw [tb_ln9]; omega)
theorem tb_p10_0 : tb_ckP prog_10_method_2_code tbI10 0 = true := by decide +kernel
theorem tb_p10_1 : tb_ckP prog_10_method_2_code tbI10 40 = true := by decide +kernel
theorem tb_ln10 : tbI10.length = 60 := by decide +kernel
theorem tb_ckI_10 : tb_ckI prog_10_method_2_code tbI10
  | 0 => tb_p10_0
  | 1 => tb_p10_1
  | j + 2 => tb_ckP_ge (show tbI10.length ≤ 40 * (j + 2) from by rw [tb_ln10]; omega)
theorem tb_p11_0 : tb_ckP prog_1_method_3_code tbI11 0 = true := by decide +kernel
theorem tb_p11_1 : tb_ckP prog_1_method_3_code tbI11 40 = true := by decide +kernel
theorem tb_p11_2 : tb_ckP prog_1_method_3_code tbI11 80 = true := by decide +kernel
theorem tb_p11_3 : tb_ckP prog_1_method_3_code tbI11 120 = true := by decide +kernel
theorem tb_ln11 : tbI11.length = 141 := by decide +kernel
theorem tb_ckI_11 : tb_ckI prog_1_method_3_code tbI11
  | 0 => tb_p11_0
  | 1 => tb_p11_1
  | 2 => tb_p11_2
  | 3 => tb_p11_3
  | j + 4 => tb_ckP_ge (show tbI11.length ≤ 40 * (j + 4) from by rw [tb_ln11]; omega)
theorem tb_p12_0 : tb_ckP prog_6_method_4_code tbI12 0 = true := by decide +kernel
theorem tb_p12_1 : tb_ckP prog_6_method_4_code tbI12 40 = true := by decide +kernel
theorem tb_p12_2 : tb_ckP prog_6_method_4_code tbI12 80 = true := by decide +kernel
theorem tb_p12_3 : tb_ckP prog_6_method_4_code tbI12 120 = true := by decide +kernel
theorem tb_ln12 : tbI12.length = 128 := by decide +kernel
theorem tb_ckI_12 : tb_ckI prog_6_method_4_code tbI12
  | 0 => tb_p12_0
  | 1 => tb_p12_1
  | 2 => tb_p12_2
  | 3 => tb_p12_3
  | j + 4 => tb_ckP_ge (show tbI12.length ≤ 40 * (j + 4) from by rw [tb_ln12]; omega)
theorem tb_p13_0 : tb_ckP prog_6_method_6_code tbI13 0 = true := by decide +kernel
theorem tb_ln13 : tbI13.length = 18 := by decide +kernel
theorem tb_ckI_13 : tb_ckI prog_6_method_6_code tbI13
  | 0 => tb_p13_0
  | j + 1 => tb_ckP_ge (show tbI13.length ≤ 40 * (j + 1) from by rw [tb_ln13]; omega)
theorem tb_p14_0 : tb_ckP prog_10_method_3_code tbI14 0 = true := by decide +kernel
theorem tb_p14_1 : tb_ckP prog_10_method_3_code tbI14 40 = true := by decide +kernel
theorem tb_p14_2 : tb_ckP prog_10_method_3_code tbI14 80 = true := by decide +kernel
theorem tb_ln14 : tbI14.length = 88 := by decide +kernel
theorem tb_ckI_14 : tb_ckI prog_10_method_3_code tbI14
  | 0 => tb_p14_0
  | 1 => tb_p14_1
  | 2 => tb_p14_2
  | j + 3 => tb_ckP_ge (show tbI14.length ≤ 40 * (j + 3) from by rw [tb_ln14]; omega)
theorem tb_p15_0 : tb_ckP prog_10_method_4_code tbI15 0 = true := by decide +kernel
theorem tb_ln15 : tbI15.length = 40 := by decide +kernel
theorem tb_ckI_15 : tb_ckI prog_10_method_4_code tbI15
  | 0 => tb_p15_0
  | j + 1 => tb_ckP_ge (show tbI15.length ≤ 40 * (j + 1) from by rw [tb_ln15]; omega)
theorem tb_p16_0 : tb_ckP prog_10_method_5_code tbI16 0 = true := by decide +kernel
theorem tb_p16_1 : tb_ckP prog_10_method_5_code tbI16 40 = true := by decide +kernel
theorem tb_p16_2 : tb_ckP prog_10_method_5_code tbI16 80 = true := by decide +kernel
theorem tb_p16_3 : tb_ckP prog_10_method_5_code tbI16 120 = true := by decide +kernel
theorem tb_p16_4 : tb_ckP prog_10_method_5_code tbI16 160 = true := by decide +kernel
theorem tb_ln16 : tbI16.length = 171 := by decide +kernel
theorem tb_ckI_16 : tb_ckI prog_10_method_5_code tbI16
  | 0 => tb_p16_0
  | 1 => tb_p16_1
  | 2 => tb_p16_2
  | 3 => tb_p16_3
  | 4 => tb_p16_4
  | j + 5 => tb_ckP_ge (show tbI16.length ≤ 40 * (j + 5) from by rw [tb_ln16]; omega)
theorem tb_p17_0 : tb_ckP prog_10_method_9_code tbI17 0 = true := by decide +kernel
theorem tb_p17_1 : tb_ckP prog_10_method_9_code tbI17 40 = true := by decide +kernel
theorem tb_ln17 : tbI17.length = 53 := by decide +kernel
theorem tb_ckI_17 : tb_ckI prog_10_method_9_code tbI17
  | 0 => tb_p17_0
  | 1 => tb_p17_1
  | j + 2 => tb_ckP_ge (show tbI17.length ≤ 40 * (j + 2) from by rw [tb_ln17]; omega)
theorem tb_p18_0 : tb_ckP prog_10_method_12_code tbI18 0 = true := by decide +kernel
theorem tb_ln18 : tbI18.length = 18 := by decide +kernel
theorem tb_ckI_18 : tb_ckI prog_10_method_12_code tbI18
  | 0 => tb_p18_0
  | j + 1 => tb_ckP_ge (show tbI18.length ≤ 40 * (j + 1) from by rw [tb_ln18]; omega)
theorem tb_p19_0 : tb_ckP prog_10_method_6_code tbI19 0 = true := by decide +kernel
theorem tb_p19_1 : tb_ckP prog_10_method_6_code tbI19 40 = true := by decide +kernel
theorem tb_p19_2 : tb_ckP prog_10_method_6_code tbI19 80 = true := by decide +kernel
theorem tb_ln19 : tbI19.length = 94 := by decide +kernel
theorem tb_ckI_19 : tb_ckI prog_10_method_6_code tbI19
  | 0 => tb_p19_0
  | 1 => tb_p19_1
  | 2 => tb_p19_2
  | j + 3 => tb_ckP_ge (show tbI19.length ≤ 40 * (j + 3) from by rw [tb_ln19]; omega)
theorem tb_p20_0 : tb_ckP prog_10_method_13_code tbI20 0 = true := by decide +kernel
theorem tb_ln20 : tbI20.length = 18 := by decide +kernel
theorem tb_ckI_20 : tb_ckI prog_10_method_13_code tbI20
  | 0 => tb_p20_0
  | j + 1 => tb_ckP_ge (show tbI20.length ≤ 40 * (j + 1) from by rw [tb_ln20]; omega)
theorem tb_p21_0 : tb_ckP prog_10_method_10_code tbI21 0 = true := by decide +kernel
theorem tb_ln21 : tbI21.length = 33 := by decide +kernel
theorem tb_ckI_21 : tb_ckI prog_10_method_10_code tbI21
  | 0 => tb_p21_0
  | j + 1 => tb_ckP_ge (show tbI21.length ≤ 40 * (j + 1) from by rw [tb_ln21]; omega)
theorem tb_p22_0 : tb_ckP prog_10_method_11_code tbI22 0 = true := by decide +kernel
theorem tb_ln22 : tbI22.length = 36 := by decide +kernel
theorem tb_ckI_22 : tb_ckI prog_10_method_11_code tbI22
  | 0 => tb_p22_0
  | j + 1 => tb_ckP_ge (show tbI22.length ≤ 40 * (j + 1) from by rw [tb_ln22]; omega)
theorem tb_p23_0 : tb_ckP prog_10_method_7_code tbI23 0 = true := by decide +kernel
theorem tb_p23_1 : tb_ckP prog_10_method_7_code tbI23 40 = true := by decide +kernel
theorem tb_p23_2 : tb_ckP prog_10_method_7_code tbI23 80 = true := by decide +kernel
theorem tb_ln23 : tbI23.length = 84 := by decide +kernel
theorem tb_ckI_23 : tb_ckI prog_10_method_7_code tbI23
  | 0 => tb_p23_0
  | 1 => tb_p23_1
  | 2 => tb_p23_2
  | j + 3 => tb_ckP_ge (show tbI23.length ≤ 40 * (j + 3) from by rw [tb_ln23]; omega)
theorem tb_p24_0 : tb_ckP prog_10_method_8_code tbI24 0 = true := by decide +kernel
theorem tb_p24_1 : tb_ckP prog_10_method_8_code tbI24 40 = true := by decide +kernel
theorem tb_p24_2 : tb_ckP prog_10_method_8_code tbI24 80 = true := by decide +kernel
theorem tb_ln24 : tbI24.length = 100 := by decide +kernel
theorem tb_ckI_24 : tb_ckI prog_10_method_8_code tbI24
  | 0 => tb_p24_0
  | 1 => tb_p24_1
  | 2 => tb_p24_2
  | j + 3 => tb_ckP_ge (show tbI24.length ≤ 40 * (j + 3) from by rw [tb_ln24]; omega)
theorem tb_p25_0 : tb_ckP prog_10_method_16_code tbI25 0 = true := by decide +kernel
theorem tb_p25_1 : tb_ckP prog_10_method_16_code tbI25 40 = true := by decide +kernel
theorem tb_ln25 : tbI25.length = 63 := by decide +kernel
theorem tb_ckI_25 : tb_ckI prog_10_method_16_code tbI25
  | 0 => tb_p25_0
  | 1 => tb_p25_1
  | j + 2 => tb_ckP_ge (show tbI25.length ≤ 40 * (j + 2) from by rw [tb_ln25]; omega)
theorem tb_p26_0 : tb_ckP prog_6_method_10_code tbI26 0 = true := by decide +kernel
theorem tb_p26_1 : tb_ckP prog_6_method_10_code tbI26 40 = true := by decide +kernel
theorem tb_p26_2 : tb_ckP prog_6_method_10_code tbI26 80 = true := by decide +kernel
theorem tb_p26_3 : tb_ckP prog_6_method_10_code tbI26 120 = true := by decide +kernel
theorem tb_ln26 : tbI26.length = 151 := by decide +kernel
theorem tb_ckI_26 : tb_ckI prog_6_method_10_code tbI26
  | 0 => tb_p26_0
  | 1 => tb_p26_1
  | 2 => tb_p26_2
  | 3 => tb_p26_3
  | j + 4 => tb_ckP_ge (show tbI26.length ≤ 40 * (j + 4) from by rw [tb_ln26]; omega)
theorem tb_p27_0 : tb_ckP prog_6_method_8_code tbI27 0 = true := by decide +kernel
theorem tb_ln27 : tbI27.length = 35 := by decide +kernel
theorem tb_ckI_27 : tb_ckI prog_6_method_8_code tbI27
  | 0 => tb_p27_0
  | j + 1 => tb_ckP_ge (show tbI27.length ≤ 40 * (j + 1) from by rw [tb_ln27]; omega)
theorem tb_p28_0 : tb_ckP prog_3_method_3_code tbI28 0 = true := by decide +kernel
theorem tb_ln28 : tbI28.length = 31 := by decide +kernel
theorem tb_ckI_28 : tb_ckI prog_3_method_3_code tbI28
  | 0 => tb_p28_0
  | j + 1 => tb_ckP_ge (show tbI28.length ≤ 40 * (j + 1) from by rw [tb_ln28]; omega)
theorem tb_p29_0 : tb_ckP prog_3_method_4_code tbI29 0 = true := by decide +kernel
theorem tb_p29_1 : tb_ckP prog_3_method_4_code tbI29 40 = true := by decide +kernel
theorem tb_ln29 : tbI29.length = 68 := by decide +kernel
theorem tb_ckI_29 : tb_ckI prog_3_method_4_code tbI29
  | 0 => tb_p29_0
  | 1 => tb_p29_1
  | j + 2 => tb_ckP_ge (show tbI29.length ≤ 40 * (j + 2) from by rw [tb_ln29]; omega)
theorem tb_p30_0 : tb_ckP prog_6_method_11_code tbI30 0 = true := by decide +kernel
theorem tb_p30_1 : tb_ckP prog_6_method_11_code tbI30 40 = true := by decide +kernel
theorem tb_p30_2 : tb_ckP prog_6_method_11_code tbI30 80 = true := by decide +kernel
theorem tb_ln30 : tbI30.length = 106 := by decide +kernel
theorem tb_ckI_30 : tb_ckI prog_6_method_11_code tbI30
  | 0 => tb_p30_0
  | 1 => tb_p30_1
  | 2 => tb_p30_2
  | j + 3 => tb_ckP_ge (show tbI30.length ≤ 40 * (j + 3) from by rw [tb_ln30]; omega)
