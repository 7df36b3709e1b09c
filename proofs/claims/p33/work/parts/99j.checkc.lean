set_option maxRecDepth 100000 in
theorem okM_68_0 : okMr 68 0 33 = true := by decide +kernel
set_option maxRecDepth 100000 in
theorem okM_69_0 : okMr 69 0 46 = true := by decide +kernel
set_option maxRecDepth 100000 in
theorem okM_70_0 : okMr 70 0 49 = true := by decide +kernel
set_option maxRecDepth 100000 in
theorem okM_70_1 : okMr 70 49 45 = true := by decide +kernel
set_option maxRecDepth 100000 in
theorem okM_70_2 : okMr 70 94 53 = true := by decide +kernel
set_option maxRecDepth 100000 in
theorem okM_71_0 : okMr 71 0 10 = true := by decide +kernel
set_option maxRecDepth 100000 in
theorem okM_72_0 : okMr 72 0 26 = true := by decide +kernel
set_option maxRecDepth 100000 in
theorem okM_73_0 : okMr 73 0 17 = true := by decide +kernel
set_option maxRecDepth 100000 in
theorem okM_74_0 : okMr 74 0 61 = true := by decide +kernel
set_option maxRecDepth 100000 in
theorem okM_74_1 : okMr 74 61 56 = true := by decide +kernel
set_option maxRecDepth 100000 in
theorem okM_75_0 : okMr 75 0 45 = true := by decide +kernel
set_option maxRecDepth 100000 in
theorem okM_75_1 : okMr 75 45 50 = true := by decide +kernel
set_option maxRecDepth 100000 in
theorem okM_75_2 : okMr 75 95 58 = true := by decide +kernel
set_option maxRecDepth 100000 in
theorem okM_75_3 : okMr 75 153 16 = true := by decide +kernel
set_option maxRecDepth 100000 in
theorem okM_76_0 : okMr 76 0 50 = true := by decide +kernel
set_option maxRecDepth 100000 in
theorem okM_77_0 : okMr 77 0 24 = true := by decide +kernel
set_option maxRecDepth 100000 in
theorem okM_78_0 : okMr 78 0 18 = true := by decide +kernel
set_option maxRecDepth 100000 in
theorem okM_79_0 : okMr 79 0 16 = true := by decide +kernel
set_option maxRecDepth 100000 in
theorem okM_80_0 : okMr 80 0 12 = true := by decide +kernel
set_option maxRecDepth 100000 in
theorem okM_81_0 : okMr 81 0 34 = true := by decide +kernel
set_option maxRecDepth 100000 in
theorem okM_82_0 : okMr 82 0 34 = true := by decide +kernel
set_option maxRecDepth 100000 in
theorem okM_83_0 : okMr 83 0 26 = true := by decide +kernel
set_option maxRecDepth 100000 in
theorem okM_84_0 : okMr 84 0 45 = true := by decide +kernel
set_option maxRecDepth 100000 in
theorem okM_84_1 : okMr 84 45 45 = true := by decide +kernel
set_option maxRecDepth 100000 in
theorem okM_84_2 : okMr 84 90 41 = true := by decide +kernel
set_option maxRecDepth 100000 in
theorem okM_85_0 : okMr 85 0 52 = true := by decide +kernel
set_option maxRecDepth 100000 in
theorem okM_86_0 : okMr 86 0 55 = true := by decide +kernel
set_option maxRecDepth 100000 in
theorem okM_86_1 : okMr 86 55 56 = true := by decide +kernel
set_option maxRecDepth 100000 in
theorem okM_86_2 : okMr 86 111 54 = true := by decide +kernel
set_option maxRecDepth 100000 in
theorem okM_86_3 : okMr 86 165 68 = true := by decide +kernel
set_option maxRecDepth 100000 in
theorem okM_87_0 : okMr 87 0 49 = true := by decide +kernel
set_option maxRecDepth 100000 in
theorem okM_87_1 : okMr 87 49 25 = true := by decide +kernel
set_option maxRecDepth 100000 in
theorem okM_88_0 : okMr 88 0 44 = true := by decide +kernel
set_option maxRecDepth 100000 in
theorem okM_88_1 : okMr 88 44 22 = true := by decide +kernel
set_option maxRecDepth 100000 in
theorem okM_89_0 : okMr 89 0 64 = true := by decide +kernel
set_option maxRecDepth 100000 in
theorem okM_89_1 : okMr 89 64 20 = true := by decide +kernel
set_option maxRecDepth 100000 in
theorem okM_90_0 : okMr 90 0 66 = true := by decide +kernel
set_option maxRecDepth 100000 in
theorem okM_91_0 : okMr 91 0 58 = true := by decide +kernel
set_option maxRecDepth 100000 in
theorem okM_91_1 : okMr 91 58 27 = true := by decide +kernel
set_option maxRecDepth 100000 in
theorem okM_92_0 : okMr 92 0 64 = true := by decide +kernel
set_option maxRecDepth 100000 in
theorem okM_93_0 : okMr 93 0 102 = true := by decide +kernel
set_option maxRecDepth 100000 in
theorem okM_93_1 : okMr 93 102 48 = true := by decide +kernel
set_option maxRecDepth 100000 in
theorem okM_93_2 : okMr 93 150 17 = true := by decide +kernel
set_option maxRecDepth 100000 in
theorem okM_94_0 : okMr 94 0 52 = true := by decide +kernel
set_option maxRecDepth 100000 in
theorem okM_94_1 : okMr 94 52 30 = true := by decide +kernel
set_option maxRecDepth 100000 in
theorem okM_95_0 : okMr 95 0 50 = true := by decide +kernel
set_option maxRecDepth 100000 in
theorem okM_95_1 : okMr 95 50 17 = true := by decide +kernel
set_option maxRecDepth 100000 in
theorem okM_96_0 : okMr 96 0 43 = true := by decide +kernel
set_option maxRecDepth 100000 in
theorem okM_97_0 : okMr 97 0 63 = true := by decide +kernel
set_option maxRecDepth 100000 in
theorem okM_98_0 : okMr 98 0 110 = true := by decide +kernel
set_option maxRecDepth 100000 in
theorem okM_98_1 : okMr 98 110 35 = true := by decide +kernel
set_option maxRecDepth 100000 in
theorem okM_99_0 : okMr 99 0 47 = true := by decide +kernel
set_option maxRecDepth 100000 in
theorem okM_100_0 : okMr 100 0 60 = true := by decide +kernel
set_option maxRecDepth 100000 in
theorem okM_101_0 : okMr 101 0 55 = true := by decide +kernel
set_option maxRecDepth 100000 in
theorem okM_101_1 : okMr 101 55 43 = true := by decide +kernel
