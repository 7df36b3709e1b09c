set_option maxRecDepth 100000 in
theorem okM_0_0 : okMr 0 0 220 = true := by decide +kernel
set_option maxRecDepth 100000 in
theorem okM_0_1 : okMr 0 220 72 = true := by decide +kernel
set_option maxRecDepth 100000 in
theorem okM_0_2 : okMr 0 292 78 = true := by decide +kernel
set_option maxRecDepth 100000 in
theorem okM_0_3 : okMr 0 370 80 = true := by decide +kernel
set_option maxRecDepth 100000 in
theorem okM_0_4 : okMr 0 450 80 = true := by decide +kernel
set_option maxRecDepth 100000 in
theorem okM_0_5 : okMr 0 530 76 = true := by decide +kernel
set_option maxRecDepth 100000 in
theorem okM_0_6 : okMr 0 606 80 = true := by decide +kernel
set_option maxRecDepth 100000 in
theorem okM_0_7 : okMr 0 686 74 = true := by decide +kernel
set_option maxRecDepth 100000 in
theorem okM_0_8 : okMr 0 760 72 = true := by decide +kernel
set_option maxRecDepth 100000 in
theorem okM_0_9 : okMr 0 832 82 = true := by decide +kernel
set_option maxRecDepth 100000 in
theorem okM_0_10 : okMr 0 914 72 = true := by decide +kernel
set_option maxRecDepth 100000 in
theorem okM_0_11 : okMr 0 986 80 = true := by decide +kernel
set_option maxRecDepth 100000 in
theorem okM_1_0 : okMr 1 0 97 = true := by decide +kernel
set_option maxRecDepth 100000 in
theorem okM_2_0 : okMr 2 0 40 = true := by decide +kernel
set_option maxRecDepth 100000 in
theorem okM_3_0 : okMr 3 0 63 = true := by decide +kernel
set_option maxRecDepth 100000 in
theorem okM_4_0 : okMr 4 0 31 = true := by decide +kernel
set_option maxRecDepth 100000 in
theorem okM_5_0 : okMr 5 0 104 = true := by decide +kernel
set_option maxRecDepth 100000 in
theorem okM_5_1 : okMr 5 104 20 = true := by decide +kernel
set_option maxRecDepth 100000 in
theorem okM_6_0 : okMr 6 0 63 = true := by decide +kernel
set_option maxRecDepth 100000 in
theorem okM_7_0 : okMr 7 0 91 = true := by decide +kernel
set_option maxRecDepth 100000 in
theorem okM_7_1 : okMr 7 91 26 = true := by decide +kernel
set_option maxRecDepth 100000 in
theorem okM_8_0 : okMr 8 0 65 = true := by decide +kernel
set_option maxRecDepth 100000 in
theorem okM_9_0 : okMr 9 0 70 = true := by decide +kernel
set_option maxRecDepth 100000 in
theorem okM_10_0 : okMr 10 0 58 = true := by decide +kernel
set_option maxRecDepth 100000 in
theorem okM_11_0 : okMr 11 0 137 = true := by decide +kernel
set_option maxRecDepth 100000 in
theorem okM_12_0 : okMr 12 0 10 = true := by decide +kernel
set_option maxRecDepth 100000 in
theorem okM_13_0 : okMr 13 0 12 = true := by decide +kernel
set_option maxRecDepth 100000 in
theorem okM_14_0 : okMr 14 0 13 = true := by decide +kernel
set_option maxRecDepth 100000 in
theorem okM_15_0 : okMr 15 0 10 = true := by decide +kernel
set_option maxRecDepth 100000 in
theorem okM_16_0 : okMr 16 0 27 = true := by decide +kernel
set_option maxRecDepth 100000 in
theorem okM_17_0 : okMr 17 0 17 = true := by decide +kernel
set_option maxRecDepth 100000 in
theorem okM_18_0 : okMr 18 0 86 = true := by decide +kernel
set_option maxRecDepth 100000 in
theorem okM_19_0 : okMr 19 0 111 = true := by decide +kernel
set_option maxRecDepth 100000 in
theorem okM_19_1 : okMr 19 111 39 = true := by decide +kernel
set_option maxRecDepth 100000 in
theorem okM_20_0 : okMr 20 0 31 = true := by decide +kernel
set_option maxRecDepth 100000 in
theorem okM_21_0 : okMr 21 0 49 = true := by decide +kernel
set_option maxRecDepth 100000 in
theorem okM_22_0 : okMr 22 0 10 = true := by decide +kernel
set_option maxRecDepth 100000 in
theorem okM_23_0 : okMr 23 0 19 = true := by decide +kernel
set_option maxRecDepth 100000 in
theorem okM_24_0 : okMr 24 0 15 = true := by decide +kernel
set_option maxRecDepth 100000 in
theorem okM_25_0 : okMr 25 0 10 = true := by decide +kernel
set_option maxRecDepth 100000 in
theorem okM_26_0 : okMr 26 0 22 = true := by decide +kernel
set_option maxRecDepth 100000 in
theorem okM_27_0 : okMr 27 0 14 = true := by decide +kernel
set_option maxRecDepth 100000 in
theorem okM_28_0 : okMr 28 0 26 = true := by decide +kernel
set_option maxRecDepth 100000 in
theorem okM_29_0 : okMr 29 0 2 = true := by decide +kernel
set_option maxRecDepth 100000 in
theorem okM_30_0 : okMr 30 0 12 = true := by decide +kernel
set_option maxRecDepth 100000 in
theorem okM_31_0 : okMr 31 0 16 = true := by decide +kernel
set_option maxRecDepth 100000 in
theorem okM_32_0 : okMr 32 0 13 = true := by decide +kernel
set_option maxRecDepth 100000 in
theorem okM_33_0 : okMr 33 0 37 = true := by decide +kernel
set_option maxRecDepth 100000 in
theorem okM_34_0 : okMr 34 0 10 = true := by decide +kernel
set_option maxRecDepth 100000 in
theorem okM_35_0 : okMr 35 0 21 = true := by decide +kernel
set_option maxRecDepth 100000 in
theorem okM_36_0 : okMr 36 0 20 = true := by decide +kernel
set_option maxRecDepth 100000 in
theorem okM_37_0 : okMr 37 0 67 = true := by decide +kernel
set_option maxRecDepth 100000 in
theorem okM_38_0 : okMr 38 0 105 = true := by decide +kernel
set_option maxRecDepth 100000 in
theorem okM_39_0 : okMr 39 0 110 = true := by decide +kernel
set_option maxRecDepth 100000 in
theorem okM_39_1 : okMr 39 110 28 = true := by decide +kernel
set_option maxRecDepth 100000 in
theorem okM_40_0 : okMr 40 0 59 = true := by decide +kernel
set_option maxRecDepth 100000 in
theorem okM_41_0 : okMr 41 0 51 = true := by decide +kernel
set_option maxRecDepth 100000 in
theorem okM_42_0 : okMr 42 0 51 = true := by decide +kernel
set_option maxRecDepth 100000 in
theorem okM_43_0 : okMr 43 0 102 = true := by decide +kernel
set_option maxRecDepth 100000 in
theorem okM_43_1 : okMr 43 102 46 = true := by decide +kernel
set_option maxRecDepth 100000 in
theorem okM_44_0 : okMr 44 0 63 = true := by decide +kernel
set_option maxRecDepth 100000 in
theorem okM_45_0 : okMr 45 0 21 = true := by decide +kernel
set_option maxRecDepth 100000 in
theorem okM_46_0 : okMr 46 0 36 = true := by decide +kernel
set_option maxRecDepth 100000 in
theorem okM_47_0 : okMr 47 0 43 = true := by decide +kernel
set_option maxRecDepth 100000 in
theorem okM_48_0 : okMr 48 0 22 = true := by decide +kernel
