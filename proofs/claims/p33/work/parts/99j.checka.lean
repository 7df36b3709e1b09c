set_option maxRecDepth 100000 in
theorem okM_0_0 : okMr 0 0 48 = true := by decide +kernel
set_option maxRecDepth 100000 in
theorem okM_0_1 : okMr 0 48 54 = true := by decide +kernel
set_option maxRecDepth 100000 in
theorem okM_0_2 : okMr 0 102 57 = true := by decide +kernel
set_option maxRecDepth 100000 in
theorem okM_0_3 : okMr 0 159 58 = true := by decide +kernel
set_option maxRecDepth 100000 in
theorem okM_0_4 : okMr 0 217 48 = true := by decide +kernel
set_option maxRecDepth 100000 in
theorem okM_0_5 : okMr 0 265 44 = true := by decide +kernel
set_option maxRecDepth 100000 in
theorem okM_0_6 : okMr 0 309 57 = true := by decide +kernel
set_option maxRecDepth 100000 in
theorem okM_0_7 : okMr 0 366 60 = true := by decide +kernel
set_option maxRecDepth 100000 in
theorem okM_0_8 : okMr 0 426 55 = true := by decide +kernel
set_option maxRecDepth 100000 in
theorem okM_0_9 : okMr 0 481 59 = true := by decide +kernel
set_option maxRecDepth 100000 in
theorem okM_0_10 : okMr 0 540 62 = true := by decide +kernel
set_option maxRecDepth 100000 in
theorem okM_0_11 : okMr 0 602 62 = true := by decide +kernel
set_option maxRecDepth 100000 in
theorem okM_0_12 : okMr 0 664 61 = true := by decide +kernel
set_option maxRecDepth 100000 in
theorem okM_0_13 : okMr 0 725 55 = true := by decide +kernel
set_option maxRecDepth 100000 in
theorem okM_0_14 : okMr 0 780 44 = true := by decide +kernel
set_option maxRecDepth 100000 in
theorem okM_0_15 : okMr 0 824 68 = true := by decide +kernel
set_option maxRecDepth 100000 in
theorem okM_1_0 : okMr 1 0 14 = true := by decide +kernel
set_option maxRecDepth 100000 in
theorem okM_2_0 : okMr 2 0 16 = true := by decide +kernel
set_option maxRecDepth 100000 in
theorem okM_3_0 : okMr 3 0 28 = true := by decide +kernel
set_option maxRecDepth 100000 in
theorem okM_4_0 : okMr 4 0 37 = true := by decide +kernel
set_option maxRecDepth 100000 in
theorem okM_5_0 : okMr 5 0 10 = true := by decide +kernel
set_option maxRecDepth 100000 in
theorem okM_6_0 : okMr 6 0 15 = true := by decide +kernel
set_option maxRecDepth 100000 in
theorem okM_7_0 : okMr 7 0 15 = true := by decide +kernel
set_option maxRecDepth 100000 in
theorem okM_8_0 : okMr 8 0 15 = true := by decide +kernel
set_option maxRecDepth 100000 in
theorem okM_9_0 : okMr 9 0 18 = true := by decide +kernel
set_option maxRecDepth 100000 in
theorem okM_10_0 : okMr 10 0 17 = true := by decide +kernel
set_option maxRecDepth 100000 in
theorem okM_11_0 : okMr 11 0 59 = true := by decide +kernel
set_option maxRecDepth 100000 in
theorem okM_11_1 : okMr 11 59 60 = true := by decide +kernel
set_option maxRecDepth 100000 in
theorem okM_11_2 : okMr 11 119 51 = true := by decide +kernel
set_option maxRecDepth 100000 in
theorem okM_11_3 : okMr 11 170 65 = true := by decide +kernel
set_option maxRecDepth 100000 in
theorem okM_11_4 : okMr 11 235 60 = true := by decide +kernel
set_option maxRecDepth 100000 in
theorem okM_12_0 : okMr 12 0 21 = true := by decide +kernel
set_option maxRecDepth 100000 in
theorem okM_13_0 : okMr 13 0 35 = true := by decide +kernel
set_option maxRecDepth 100000 in
theorem okM_14_0 : okMr 14 0 50 = true := by decide +kernel
set_option maxRecDepth 100000 in
theorem okM_15_0 : okMr 15 0 66 = true := by decide +kernel
set_option maxRecDepth 100000 in
theorem okM_15_1 : okMr 15 66 52 = true := by decide +kernel
set_option maxRecDepth 100000 in
theorem okM_15_2 : okMr 15 118 49 = true := by decide +kernel
set_option maxRecDepth 100000 in
theorem okM_15_3 : okMr 15 167 51 = true := by decide +kernel
set_option maxRecDepth 100000 in
theorem okM_15_4 : okMr 15 218 30 = true := by decide +kernel
set_option maxRecDepth 100000 in
theorem okM_16_0 : okMr 16 0 50 = true := by decide +kernel
set_option maxRecDepth 100000 in
theorem okM_16_1 : okMr 16 50 56 = true := by decide +kernel
set_option maxRecDepth 100000 in
theorem okM_16_2 : okMr 16 106 46 = true := by decide +kernel
set_option maxRecDepth 100000 in
theorem okM_17_0 : okMr 17 0 55 = true := by decide +kernel
set_option maxRecDepth 100000 in
theorem okM_17_1 : okMr 17 55 42 = true := by decide +kernel
set_option maxRecDepth 100000 in
theorem okM_18_0 : okMr 18 0 40 = true := by decide +kernel
set_option maxRecDepth 100000 in
theorem okM_19_0 : okMr 19 0 63 = true := by decide +kernel
set_option maxRecDepth 100000 in
theorem okM_20_0 : okMr 20 0 55 = true := by decide +kernel
set_option maxRecDepth 100000 in
theorem okM_20_1 : okMr 20 55 55 = true := by decide +kernel
set_option maxRecDepth 100000 in
theorem okM_21_0 : okMr 21 0 11 = true := by decide +kernel
set_option maxRecDepth 100000 in
theorem okM_22_0 : okMr 22 0 47 = true := by decide +kernel
set_option maxRecDepth 100000 in
theorem okM_22_1 : okMr 22 47 16 = true := by decide +kernel
set_option maxRecDepth 100000 in
theorem okM_23_0 : okMr 23 0 47 = true := by decide +kernel
set_option maxRecDepth 100000 in
theorem okM_23_1 : okMr 23 47 23 = true := by decide +kernel
set_option maxRecDepth 100000 in
theorem okM_24_0 : okMr 24 0 63 = true := by decide +kernel
set_option maxRecDepth 100000 in
theorem okM_25_0 : okMr 25 0 46 = true := by decide +kernel
