set_option maxRecDepth 100000 in
theorem okM_25_1 : okMr 25 46 45 = true := by decide +kernel
set_option maxRecDepth 100000 in
theorem okM_25_2 : okMr 25 91 26 = true := by decide +kernel
set_option maxRecDepth 100000 in
theorem okM_26_0 : okMr 26 0 65 = true := by decide +kernel
set_option maxRecDepth 100000 in
theorem okM_27_0 : okMr 27 0 70 = true := by decide +kernel
set_option maxRecDepth 100000 in
theorem okM_28_0 : okMr 28 0 58 = true := by decide +kernel
set_option maxRecDepth 100000 in
theorem okM_29_0 : okMr 29 0 83 = true := by decide +kernel
set_option maxRecDepth 100000 in
theorem okM_29_1 : okMr 29 83 54 = true := by decide +kernel
set_option maxRecDepth 100000 in
theorem okM_30_0 : okMr 30 0 10 = true := by decide +kernel
set_option maxRecDepth 100000 in
theorem okM_31_0 : okMr 31 0 12 = true := by decide +kernel
set_option maxRecDepth 100000 in
theorem okM_32_0 : okMr 32 0 13 = true := by decide +kernel
set_option maxRecDepth 100000 in
theorem okM_33_0 : okMr 33 0 10 = true := by decide +kernel
set_option maxRecDepth 100000 in
theorem okM_34_0 : okMr 34 0 27 = true := by decide +kernel
set_option maxRecDepth 100000 in
theorem okM_35_0 : okMr 35 0 17 = true := by decide +kernel
set_option maxRecDepth 100000 in
theorem okM_36_0 : okMr 36 0 54 = true := by decide +kernel
set_option maxRecDepth 100000 in
theorem okM_36_1 : okMr 36 54 30 = true := by decide +kernel
set_option maxRecDepth 100000 in
theorem okM_37_0 : okMr 37 0 53 = true := by decide +kernel
set_option maxRecDepth 100000 in
theorem okM_37_1 : okMr 37 53 58 = true := by decide +kernel
set_option maxRecDepth 100000 in
theorem okM_37_2 : okMr 37 111 33 = true := by decide +kernel
set_option maxRecDepth 100000 in
theorem okM_38_0 : okMr 38 0 31 = true := by decide +kernel
set_option maxRecDepth 100000 in
theorem okM_39_0 : okMr 39 0 49 = true := by decide +kernel
set_option maxRecDepth 100000 in
theorem okM_39_1 : okMr 39 49 15 = true := by decide +kernel
set_option maxRecDepth 100000 in
theorem okM_40_0 : okMr 40 0 10 = true := by decide +kernel
set_option maxRecDepth 100000 in
theorem okM_41_0 : okMr 41 0 19 = true := by decide +kernel
set_option maxRecDepth 100000 in
theorem okM_42_0 : okMr 42 0 15 = true := by decide +kernel
set_option maxRecDepth 100000 in
theorem okM_43_0 : okMr 43 0 10 = true := by decide +kernel
set_option maxRecDepth 100000 in
theorem okM_44_0 : okMr 44 0 22 = true := by decide +kernel
set_option maxRecDepth 100000 in
theorem okM_45_0 : okMr 45 0 14 = true := by decide +kernel
set_option maxRecDepth 100000 in
theorem okM_46_0 : okMr 46 0 26 = true := by decide +kernel
set_option maxRecDepth 100000 in
theorem okM_47_0 : okMr 47 0 2 = true := by decide +kernel
set_option maxRecDepth 100000 in
theorem okM_48_0 : okMr 48 0 12 = true := by decide +kernel
set_option maxRecDepth 100000 in
theorem okM_49_0 : okMr 49 0 16 = true := by decide +kernel
set_option maxRecDepth 100000 in
theorem okM_50_0 : okMr 50 0 13 = true := by decide +kernel
set_option maxRecDepth 100000 in
theorem okM_51_0 : okMr 51 0 37 = true := by decide +kernel
set_option maxRecDepth 100000 in
theorem okM_52_0 : okMr 52 0 10 = true := by decide +kernel
set_option maxRecDepth 100000 in
theorem okM_53_0 : okMr 53 0 21 = true := by decide +kernel
set_option maxRecDepth 100000 in
theorem okM_54_0 : okMr 54 0 20 = true := by decide +kernel
set_option maxRecDepth 100000 in
theorem okM_55_0 : okMr 55 0 67 = true := by decide +kernel
set_option maxRecDepth 100000 in
theorem okM_56_0 : okMr 56 0 50 = true := by decide +kernel
set_option maxRecDepth 100000 in
theorem okM_56_1 : okMr 56 50 55 = true := by decide +kernel
set_option maxRecDepth 100000 in
theorem okM_57_0 : okMr 57 0 52 = true := by decide +kernel
set_option maxRecDepth 100000 in
theorem okM_57_1 : okMr 57 52 58 = true := by decide +kernel
set_option maxRecDepth 100000 in
theorem okM_57_2 : okMr 57 110 28 = true := by decide +kernel
set_option maxRecDepth 100000 in
theorem okM_58_0 : okMr 58 0 59 = true := by decide +kernel
set_option maxRecDepth 100000 in
theorem okM_59_0 : okMr 59 0 51 = true := by decide +kernel
set_option maxRecDepth 100000 in
theorem okM_60_0 : okMr 60 0 51 = true := by decide +kernel
set_option maxRecDepth 100000 in
theorem okM_61_0 : okMr 61 0 57 = true := by decide +kernel
set_option maxRecDepth 100000 in
theorem okM_61_1 : okMr 61 57 55 = true := by decide +kernel
set_option maxRecDepth 100000 in
theorem okM_61_2 : okMr 61 112 27 = true := by decide +kernel
set_option maxRecDepth 100000 in
theorem okM_62_0 : okMr 62 0 52 = true := by decide +kernel
set_option maxRecDepth 100000 in
theorem okM_62_1 : okMr 62 52 11 = true := by decide +kernel
set_option maxRecDepth 100000 in
theorem okM_63_0 : okMr 63 0 21 = true := by decide +kernel
set_option maxRecDepth 100000 in
theorem okM_64_0 : okMr 64 0 36 = true := by decide +kernel
set_option maxRecDepth 100000 in
theorem okM_65_0 : okMr 65 0 43 = true := by decide +kernel
set_option maxRecDepth 100000 in
theorem okM_66_0 : okMr 66 0 22 = true := by decide +kernel
set_option maxRecDepth 100000 in
theorem okM_67_0 : okMr 67 0 44 = true := by decide +kernel
