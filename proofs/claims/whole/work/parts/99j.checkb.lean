set_option maxRecDepth 100000 in
theorem okM_49_0 : okMr 49 0 44 = true := by decide +kernel
set_option maxRecDepth 100000 in
theorem okM_50_0 : okMr 50 0 33 = true := by decide +kernel
set_option maxRecDepth 100000 in
theorem okM_51_0 : okMr 51 0 46 = true := by decide +kernel
set_option maxRecDepth 100000 in
theorem okM_52_0 : okMr 52 0 94 = true := by decide +kernel
set_option maxRecDepth 100000 in
theorem okM_52_1 : okMr 52 94 53 = true := by decide +kernel
set_option maxRecDepth 100000 in
theorem okM_53_0 : okMr 53 0 10 = true := by decide +kernel
set_option maxRecDepth 100000 in
theorem okM_54_0 : okMr 54 0 26 = true := by decide +kernel
set_option maxRecDepth 100000 in
theorem okM_55_0 : okMr 55 0 17 = true := by decide +kernel
set_option maxRecDepth 100000 in
theorem okM_56_0 : okMr 56 0 116 = true := by decide +kernel
set_option maxRecDepth 100000 in
theorem okM_56_1 : okMr 56 116 1 = true := by decide +kernel
set_option maxRecDepth 100000 in
theorem okM_57_0 : okMr 57 0 95 = true := by decide +kernel
set_option maxRecDepth 100000 in
theorem okM_57_1 : okMr 57 95 74 = true := by decide +kernel
set_option maxRecDepth 100000 in
theorem okM_58_0 : okMr 58 0 50 = true := by decide +kernel
set_option maxRecDepth 100000 in
theorem okM_59_0 : okMr 59 0 24 = true := by decide +kernel
set_option maxRecDepth 100000 in
theorem okM_60_0 : okMr 60 0 18 = true := by decide +kernel
set_option maxRecDepth 100000 in
theorem okM_61_0 : okMr 61 0 16 = true := by decide +kernel
set_option maxRecDepth 100000 in
theorem okM_62_0 : okMr 62 0 12 = true := by decide +kernel
set_option maxRecDepth 100000 in
theorem okM_63_0 : okMr 63 0 34 = true := by decide +kernel
set_option maxRecDepth 100000 in
theorem okM_64_0 : okMr 64 0 34 = true := by decide +kernel
set_option maxRecDepth 100000 in
theorem okM_65_0 : okMr 65 0 26 = true := by decide +kernel
set_option maxRecDepth 100000 in
theorem okM_66_0 : okMr 66 0 90 = true := by decide +kernel
set_option maxRecDepth 100000 in
theorem okM_66_1 : okMr 66 90 41 = true := by decide +kernel
set_option maxRecDepth 100000 in
theorem okM_67_0 : okMr 67 0 52 = true := by decide +kernel
set_option maxRecDepth 100000 in
theorem okM_68_0 : okMr 68 0 111 = true := by decide +kernel
set_option maxRecDepth 100000 in
theorem okM_68_1 : okMr 68 111 112 = true := by decide +kernel
set_option maxRecDepth 100000 in
theorem okM_68_2 : okMr 68 223 10 = true := by decide +kernel
set_option maxRecDepth 100000 in
theorem okM_69_0 : okMr 69 0 74 = true := by decide +kernel
set_option maxRecDepth 100000 in
theorem okM_70_0 : okMr 70 0 66 = true := by decide +kernel
set_option maxRecDepth 100000 in
theorem okM_71_0 : okMr 71 0 84 = true := by decide +kernel
set_option maxRecDepth 100000 in
theorem okM_72_0 : okMr 72 0 66 = true := by decide +kernel
set_option maxRecDepth 100000 in
theorem okM_73_0 : okMr 73 0 85 = true := by decide +kernel
set_option maxRecDepth 100000 in
theorem okM_74_0 : okMr 74 0 64 = true := by decide +kernel
set_option maxRecDepth 100000 in
theorem okM_75_0 : okMr 75 0 150 = true := by decide +kernel
set_option maxRecDepth 100000 in
theorem okM_75_1 : okMr 75 150 17 = true := by decide +kernel
set_option maxRecDepth 100000 in
theorem okM_76_0 : okMr 76 0 82 = true := by decide +kernel
set_option maxRecDepth 100000 in
theorem okM_77_0 : okMr 77 0 67 = true := by decide +kernel
set_option maxRecDepth 100000 in
theorem okM_78_0 : okMr 78 0 43 = true := by decide +kernel
set_option maxRecDepth 100000 in
theorem okM_79_0 : okMr 79 0 63 = true := by decide +kernel
set_option maxRecDepth 100000 in
theorem okM_80_0 : okMr 80 0 145 = true := by decide +kernel
set_option maxRecDepth 100000 in
theorem okM_81_0 : okMr 81 0 47 = true := by decide +kernel
set_option maxRecDepth 100000 in
theorem okM_82_0 : okMr 82 0 60 = true := by decide +kernel
set_option maxRecDepth 100000 in
theorem okM_83_0 : okMr 83 0 98 = true := by decide +kernel
set_option maxRecDepth 100000 in
theorem okM_84_0 : okMr 84 0 32 = true := by decide +kernel
set_option maxRecDepth 100000 in
theorem okM_85_0 : okMr 85 0 108 = true := by decide +kernel
set_option maxRecDepth 100000 in
theorem okM_85_1 : okMr 85 108 12 = true := by decide +kernel
set_option maxRecDepth 100000 in
theorem okM_86_0 : okMr 86 0 21 = true := by decide +kernel
set_option maxRecDepth 100000 in
theorem okM_87_0 : okMr 87 0 113 = true := by decide +kernel
set_option maxRecDepth 100000 in
theorem okM_87_1 : okMr 87 113 8 = true := by decide +kernel
set_option maxRecDepth 100000 in
theorem okM_88_0 : okMr 88 0 48 = true := by decide +kernel
set_option maxRecDepth 100000 in
theorem okM_89_0 : okMr 89 0 57 = true := by decide +kernel
set_option maxRecDepth 100000 in
theorem okM_90_0 : okMr 90 0 77 = true := by decide +kernel
set_option maxRecDepth 100000 in
theorem okM_91_0 : okMr 91 0 76 = true := by decide +kernel
set_option maxRecDepth 100000 in
theorem okM_92_0 : okMr 92 0 106 = true := by decide +kernel
set_option maxRecDepth 100000 in
theorem okM_93_0 : okMr 93 0 43 = true := by decide +kernel
set_option maxRecDepth 100000 in
theorem okM_94_0 : okMr 94 0 106 = true := by decide +kernel
set_option maxRecDepth 100000 in
theorem okM_95_0 : okMr 95 0 63 = true := by decide +kernel
set_option maxRecDepth 100000 in
theorem okM_96_0 : okMr 96 0 87 = true := by decide +kernel
set_option maxRecDepth 100000 in
theorem okM_97_0 : okMr 97 0 33 = true := by decide +kernel
set_option maxRecDepth 100000 in
theorem okM_98_0 : okMr 98 0 51 = true := by decide +kernel
set_option maxRecDepth 100000 in
theorem okM_99_0 : okMr 99 0 35 = true := by decide +kernel
set_option maxRecDepth 100000 in
theorem okM_100_0 : okMr 100 0 40 = true := by decide +kernel
set_option maxRecDepth 100000 in
theorem okM_101_0 : okMr 101 0 101 = true := by decide +kernel
set_option maxRecDepth 100000 in
theorem okM_102_0 : okMr 102 0 21 = true := by decide +kernel
set_option maxRecDepth 100000 in
theorem okM_103_0 : okMr 103 0 16 = true := by decide +kernel
set_option maxRecDepth 100000 in
theorem okM_104_0 : okMr 104 0 15 = true := by decide +kernel
set_option maxRecDepth 100000 in
theorem okM_105_0 : okMr 105 0 20 = true := by decide +kernel
