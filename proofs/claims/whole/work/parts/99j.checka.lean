set_option maxRecDepth 100000 in
theorem okM_0_0 : okMr 0 0 178 = true := by decide +kernel
set_option maxRecDepth 100000 in
theorem okM_0_1 : okMr 0 178 42 = true := by decide +kernel
set_option maxRecDepth 100000 in
theorem okM_0_2 : okMr 0 220 36 = true := by decide +kernel
set_option maxRecDepth 100000 in
theorem okM_0_3 : okMr 0 256 36 = true := by decide +kernel
set_option maxRecDepth 100000 in
theorem okM_0_4 : okMr 0 292 34 = true := by decide +kernel
set_option maxRecDepth 100000 in
theorem okM_0_5 : okMr 0 326 44 = true := by decide +kernel
set_option maxRecDepth 100000 in
theorem okM_0_6 : okMr 0 370 38 = true := by decide +kernel
set_option maxRecDepth 100000 in
theorem okM_0_7 : okMr 0 408 42 = true := by decide +kernel
set_option maxRecDepth 100000 in
theorem okM_0_8 : okMr 0 450 42 = true := by decide +kernel
set_option maxRecDepth 100000 in
theorem okM_0_9 : okMr 0 492 38 = true := by decide +kernel
set_option maxRecDepth 100000 in
theorem okM_0_10 : okMr 0 530 40 = true := by decide +kernel
set_option maxRecDepth 100000 in
theorem okM_0_11 : okMr 0 570 36 = true := by decide +kernel
set_option maxRecDepth 100000 in
theorem okM_0_12 : okMr 0 606 38 = true := by decide +kernel
set_option maxRecDepth 100000 in
theorem okM_0_13 : okMr 0 644 42 = true := by decide +kernel
set_option maxRecDepth 100000 in
theorem okM_0_14 : okMr 0 686 38 = true := by decide +kernel
set_option maxRecDepth 100000 in
theorem okM_0_15 : okMr 0 724 36 = true := by decide +kernel
set_option maxRecDepth 100000 in
theorem okM_0_16 : okMr 0 760 36 = true := by decide +kernel
set_option maxRecDepth 100000 in
theorem okM_0_17 : okMr 0 796 36 = true := by decide +kernel
set_option maxRecDepth 100000 in
theorem okM_0_18 : okMr 0 832 40 = true := by decide +kernel
set_option maxRecDepth 100000 in
theorem okM_0_19 : okMr 0 872 42 = true := by decide +kernel
set_option maxRecDepth 100000 in
theorem okM_0_20 : okMr 0 914 34 = true := by decide +kernel
set_option maxRecDepth 100000 in
theorem okM_0_21 : okMr 0 948 38 = true := by decide +kernel
set_option maxRecDepth 100000 in
theorem okM_0_22 : okMr 0 986 48 = true := by decide +kernel
set_option maxRecDepth 100000 in
theorem okM_0_23 : okMr 0 1034 32 = true := by decide +kernel
set_option maxRecDepth 100000 in
theorem okM_1_0 : okMr 1 0 55 = true := by decide +kernel
set_option maxRecDepth 100000 in
theorem okM_1_1 : okMr 1 55 42 = true := by decide +kernel
set_option maxRecDepth 100000 in
theorem okM_2_0 : okMr 2 0 40 = true := by decide +kernel
set_option maxRecDepth 100000 in
theorem okM_3_0 : okMr 3 0 63 = true := by decide +kernel
set_option maxRecDepth 100000 in
theorem okM_4_0 : okMr 4 0 55 = true := by decide +kernel
set_option maxRecDepth 100000 in
theorem okM_4_1 : okMr 4 55 55 = true := by decide +kernel
set_option maxRecDepth 100000 in
theorem okM_5_0 : okMr 5 0 11 = true := by decide +kernel
set_option maxRecDepth 100000 in
theorem okM_6_0 : okMr 6 0 47 = true := by decide +kernel
set_option maxRecDepth 100000 in
theorem okM_6_1 : okMr 6 47 16 = true := by decide +kernel
set_option maxRecDepth 100000 in
theorem okM_7_0 : okMr 7 0 47 = true := by decide +kernel
set_option maxRecDepth 100000 in
theorem okM_7_1 : okMr 7 47 23 = true := by decide +kernel
set_option maxRecDepth 100000 in
theorem okM_8_0 : okMr 8 0 63 = true := by decide +kernel
set_option maxRecDepth 100000 in
theorem okM_9_0 : okMr 9 0 46 = true := by decide +kernel
set_option maxRecDepth 100000 in
theorem okM_9_1 : okMr 9 46 45 = true := by decide +kernel
set_option maxRecDepth 100000 in
theorem okM_9_2 : okMr 9 91 26 = true := by decide +kernel
set_option maxRecDepth 100000 in
theorem okM_10_0 : okMr 10 0 65 = true := by decide +kernel
set_option maxRecDepth 100000 in
theorem okM_11_0 : okMr 11 0 70 = true := by decide +kernel
set_option maxRecDepth 100000 in
theorem okM_12_0 : okMr 12 0 58 = true := by decide +kernel
set_option maxRecDepth 100000 in
theorem okM_13_0 : okMr 13 0 83 = true := by decide +kernel
set_option maxRecDepth 100000 in
theorem okM_13_1 : okMr 13 83 54 = true := by decide +kernel
set_option maxRecDepth 100000 in
theorem okM_14_0 : okMr 14 0 10 = true := by decide +kernel
set_option maxRecDepth 100000 in
theorem okM_15_0 : okMr 15 0 12 = true := by decide +kernel
set_option maxRecDepth 100000 in
theorem okM_16_0 : okMr 16 0 13 = true := by decide +kernel
set_option maxRecDepth 100000 in
theorem okM_17_0 : okMr 17 0 10 = true := by decide +kernel
set_option maxRecDepth 100000 in
theorem okM_18_0 : okMr 18 0 27 = true := by decide +kernel
set_option maxRecDepth 100000 in
theorem okM_19_0 : okMr 19 0 17 = true := by decide +kernel
set_option maxRecDepth 100000 in
theorem okM_20_0 : okMr 20 0 54 = true := by decide +kernel
set_option maxRecDepth 100000 in
theorem okM_20_1 : okMr 20 54 30 = true := by decide +kernel
set_option maxRecDepth 100000 in
theorem okM_21_0 : okMr 21 0 53 = true := by decide +kernel
set_option maxRecDepth 100000 in
theorem okM_21_1 : okMr 21 53 58 = true := by decide +kernel
set_option maxRecDepth 100000 in
theorem okM_21_2 : okMr 21 111 33 = true := by decide +kernel
set_option maxRecDepth 100000 in
theorem okM_22_0 : okMr 22 0 31 = true := by decide +kernel
set_option maxRecDepth 100000 in
theorem okM_23_0 : okMr 23 0 49 = true := by decide +kernel
set_option maxRecDepth 100000 in
theorem okM_23_1 : okMr 23 49 15 = true := by decide +kernel
set_option maxRecDepth 100000 in
theorem okM_24_0 : okMr 24 0 10 = true := by decide +kernel
set_option maxRecDepth 100000 in
theorem okM_25_0 : okMr 25 0 19 = true := by decide +kernel
set_option maxRecDepth 100000 in
theorem okM_26_0 : okMr 26 0 15 = true := by decide +kernel
set_option maxRecDepth 100000 in
theorem okM_27_0 : okMr 27 0 10 = true := by decide +kernel
set_option maxRecDepth 100000 in
theorem okM_28_0 : okMr 28 0 22 = true := by decide +kernel
set_option maxRecDepth 100000 in
theorem okM_29_0 : okMr 29 0 14 = true := by decide +kernel
set_option maxRecDepth 100000 in
theorem okM_30_0 : okMr 30 0 26 = true := by decide +kernel
set_option maxRecDepth 100000 in
theorem okM_31_0 : okMr 31 0 2 = true := by decide +kernel
set_option maxRecDepth 100000 in
theorem okM_32_0 : okMr 32 0 12 = true := by decide +kernel
set_option maxRecDepth 100000 in
theorem okM_33_0 : okMr 33 0 16 = true := by decide +kernel
set_option maxRecDepth 100000 in
theorem okM_34_0 : okMr 34 0 13 = true := by decide +kernel
set_option maxRecDepth 100000 in
theorem okM_35_0 : okMr 35 0 37 = true := by decide +kernel
set_option maxRecDepth 100000 in
theorem okM_36_0 : okMr 36 0 10 = true := by decide +kernel
set_option maxRecDepth 100000 in
theorem okM_37_0 : okMr 37 0 21 = true := by decide +kernel
set_option maxRecDepth 100000 in
theorem okM_38_0 : okMr 38 0 20 = true := by decide +kernel
set_option maxRecDepth 100000 in
theorem okM_39_0 : okMr 39 0 67 = true := by decide +kernel
set_option maxRecDepth 100000 in
theorem okM_40_0 : okMr 40 0 50 = true := by decide +kernel
set_option maxRecDepth 100000 in
theorem okM_40_1 : okMr 40 50 55 = true := by decide +kernel
set_option maxRecDepth 100000 in
theorem okM_41_0 : okMr 41 0 52 = true := by decide +kernel
set_option maxRecDepth 100000 in
theorem okM_41_1 : okMr 41 52 58 = true := by decide +kernel
set_option maxRecDepth 100000 in
theorem okM_41_2 : okMr 41 110 28 = true := by decide +kernel
set_option maxRecDepth 100000 in
theorem okM_42_0 : okMr 42 0 59 = true := by decide +kernel
set_option maxRecDepth 100000 in
theorem okM_43_0 : okMr 43 0 51 = true := by decide +kernel
set_option maxRecDepth 100000 in
theorem okM_44_0 : okMr 44 0 51 = true := by decide +kernel
set_option maxRecDepth 100000 in
theorem okM_45_0 : okMr 45 0 57 = true := by decide +kernel
set_option maxRecDepth 100000 in
theorem okM_45_1 : okMr 45 57 55 = true := by decide +kernel
