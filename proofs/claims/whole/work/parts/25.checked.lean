theorem tb_ckF_0 : tb_ckF 0 = true := by decide +kernel
theorem tb_ckK_0 : tb_ckK 0 = true := by decide +kernel
theorem tb_ckS_0 : tb_ckS 0 = true := by decide +kernel
theorem tb_ckG_0 : tb_ckG 0 = true := by decide +kernel
theorem tb_ckF_1 : tb_ckF 1 = true := by decide +kernel
theorem tb_ckK_1 : tb_ckK 1 = true := by decide +kernel
theorem tb_ckS_1 : tb_ckS 1 = true := by decide +kernel
theorem tb_ckG_1 : tb_ckG 1 = true := by decide +kernel
theorem tb_ckF_2 : tb_ckF 2 = true := by decide +kernel
theorem tb_ckK_2 : tb_ckK 2 = true := by decide +kernel
theorem tb_ckS_2 : tb_ckS 2 = true := by decide +kernel
theorem tb_ckG_2 : tb_ckG 2 = true := by decide +kernel
theorem tb_ckF_3 : tb_ckF 3 = true := by decide +kernel
theorem tb_ckK_3 : tb_ckK 3 = true := by decide +kernel
theorem tb_ckS_3 : tb_ckS 3 = true := by decide +kernel
theorem tb_ckG_3 : tb_ckG 3 = true := by decide +kernel
theorem tb_ckF_4 : tb_ckF 4 = true := by decide +kernel
theorem tb_ckK_4 : tb_ckK 4 = true := by decide +kernel
theorem tb_ckS_4 : tb_ckS 4 = true := by decide +kernel
theorem tb_ckG_4 : tb_ckG 4 = true := by decide +kernel
theorem tb_ckF_5 : tb_ckF 5 = true := by decide +kernel
theorem tb_ckK_5 : tb_ckK 5 = true := by decide +kernel
theorem tb_ckS_5 : tb_ckS 5 = true := by decide +kernel
theorem tb_ckG_5 : tb_ckG 5 = true := by decide +kernel
theorem tb_ckF_6 : tb_ckF 6 = true := by decide +kernel
theorem tb_ckK_6 : tb_ckK 6 = true := by decide +kernel
theorem tb_ckS_6 : tb_ckS 6 = true := by decide +kernel
theorem tb_ckG_6 : tb_ckG 6 = true := by decide +kernel
theorem tb_ckF_7 : tb_ckF 7 = true := by decide +kernel
theorem tb_ckK_7 : tb_ckK 7 = true := by decide +kernel
theorem tb_ckS_7 : tb_ckS 7 = true := by decide +kernel
theorem tb_ckG_7 : tb_ckG 7 = true := by decide +kernel
theorem tb_ckF_8 : tb_ckF 8 = true := by decide +kernel
theorem tb_ckK_8 : tb_ckK 8 = true := by decide +kernel
theorem tb_ckS_8 : tb_ckS 8 = true := by decide +kernel
theorem tb_ckG_8 : tb_ckG 8 = true := by decide +kernel
theorem tb_ckF_9 : tb_ckF 9 = true := by decide +kernel
theorem tb_ckK_9 : tb_ckK 9 = true := by decide +kernel
theorem tb_ckS_9 : tb_ckS 9 = true := by decide +kernel
theorem tb_ckG_9 : tb_ckG 9 = true := by decide +kernel
theorem tb_ckF_10 : tb_ckF 10 = true := by decide +kernel
theorem tb_ckK_10 : tb_ckK 10 = true := by decide +kernel
theorem tb_ckS_10 : tb_ckS 10 = true := by decide +kernel
theorem tb_ckG_10 : tb_ckG 10 = true := by decide +kernel
theorem tb_ckF_11 : tb_ckF 11 = true := by decide +kernel
theorem tb_ckK_11 : tb_ckK 11 = true := by decide +kernel
theorem tb_ckS_11 : tb_ckS 11 = true := by decide +kernel
theorem tb_ckG_11 : tb_ckG 11 = true := by decide +kernel
theorem tb_ckF_12 : tb_ckF 12 = true := by decide +kernel
theorem tb_ckK_12 : tb_ckK 12 = true := by decide +kernel
theorem tb_ckS_12 : tb_ckS 12 = true := by decide +kernel
theorem tb_ckG_12 : tb_ckG 12 = true := by decide +kernel
theorem tb_ckF_13 : tb_ckF 13 = true := by decide +kernel
theorem tb_ckK_13 : tb_ckK 13 = true := by decide +kernel
theorem tb_ckS_13 : tb_ckS 13 = true := by decide +kernel
theorem tb_ckG_13 : tb_ckG 13 = true := by decide +kernel
theorem tb_ckC_0 : tb_pC "LetterPost" tbT0 9 tbD0 tbY0 tbL0 185 161 = true := by decide +kernel
theorem tb_ckC_1 : tb_pC "LetterPost$Tokens" tbT1 10 tbD1 tbY1 tbL1 193 162 = true := by decide +kernel
theorem tb_ckC_2 : tb_pC "LetterPost$Kinds" tbT2 6 tbD2 tbY2 tbL2 237 163 = true := by decide +kernel
theorem tb_ckC_3 : tb_pC "LetterPost$Reader" tbT3 8 tbD3 tbY3 tbL3 266 164 = true := by decide +kernel
theorem tb_ckC_4 : tb_pC "LetterPost$TreeMaker" tbT4 8 tbD4 tbY4 tbL4 302 165 = true := by decide +kernel
theorem tb_ckC_5 : tb_pC "LetterPost$Tree" tbT5 10 tbD5 tbY5 tbL5 308 166 = true := by decide +kernel
theorem tb_ckC_6 : tb_pC "LetterPost$Letters" tbT6 9 tbD6 tbY6 tbL6 388 167 = true := by decide +kernel
theorem tb_ckC_7 : tb_pC "LetterPost$Sorter" tbT7 12 tbD7 tbY7 tbL7 425 168 = true := by decide +kernel
theorem tb_ckC_8 : tb_pC "LetterPost$Function" tbT8 11 tbD8 tbY8 tbL8 716 176 = true := by decide +kernel
theorem tb_ckC_9 : tb_pC "LetterPost$Rule" tbT9 20 tbD9 tbY9 tbL9 808 179 = true := by decide +kernel
theorem tb_ckC_10 : tb_pC "LetterPost$Pattern" tbT10 10 tbD10 tbY10 tbL10 943 180 = true := by decide +kernel
theorem tb_ckC_11 : tb_pC "LetterPost$Row" tbT11 5 tbD11 tbY11 tbL11 1137 181 = true := by decide +kernel
theorem tb_ckC_12 : tb_pC "LetterPostModel" tbT12 130 tbD12 tbY12 tbL12 1650 169 = true := by decide +kernel
