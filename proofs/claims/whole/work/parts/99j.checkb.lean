set_option maxRecDepth 100000 in
theorem okM_45_2 : okMr 45 112 27 = true := by decide +kernel
set_option maxRecDepth 100000 in
theorem okM_46_0 : okMr 46 0 52 = true := by decide +kernel
set_option maxRecDepth 100000 in
theorem okM_46_1 : okMr 46 52 11 = true := by decide +kernel
set_option maxRecDepth 100000 in
theorem okM_47_0 : okMr 47 0 21 = true := by decide +kernel
set_option maxRecDepth 100000 in
theorem okM_48_0 : okMr 48 0 36 = true := by decide +kernel
set_option maxRecDepth 100000 in
theorem okM_49_0 : okMr 49 0 43 = true := by decide +kernel
set_option maxRecDepth 100000 in
theorem okM_50_0 : okMr 50 0 22 = true := by decide +kernel
set_option maxRecDepth 100000 in
theorem okM_51_0 : okMr 51 0 44 = true := by decide +kernel
set_option maxRecDepth 100000 in
theorem okM_52_0 : okMr 52 0 33 = true := by decide +kernel
set_option maxRecDepth 100000 in
theorem okM_53_0 : okMr 53 0 46 = true := by decide +kernel
set_option maxRecDepth 100000 in
theorem okM_54_0 : okMr 54 0 49 = true := by decide +kernel
set_option maxRecDepth 100000 in
theorem okM_54_1 : okMr 54 49 45 = true := by decide +kernel
set_option maxRecDepth 100000 in
theorem okM_54_2 : okMr 54 94 53 = true := by decide +kernel
set_option maxRecDepth 100000 in
theorem okM_55_0 : okMr 55 0 10 = true := by decide +kernel
set_option maxRecDepth 100000 in
theorem okM_56_0 : okMr 56 0 26 = true := by decide +kernel
set_option maxRecDepth 100000 in
theorem okM_57_0 : okMr 57 0 17 = true := by decide +kernel
set_option maxRecDepth 100000 in
theorem okM_58_0 : okMr 58 0 61 = true := by decide +kernel
set_option maxRecDepth 100000 in
theorem okM_58_1 : okMr 58 61 56 = true := by decide +kernel
set_option maxRecDepth 100000 in
theorem okM_59_0 : okMr 59 0 45 = true := by decide +kernel
set_option maxRecDepth 100000 in
theorem okM_59_1 : okMr 59 45 50 = true := by decide +kernel
set_option maxRecDepth 100000 in
theorem okM_59_2 : okMr 59 95 58 = true := by decide +kernel
set_option maxRecDepth 100000 in
theorem okM_59_3 : okMr 59 153 16 = true := by decide +kernel
set_option maxRecDepth 100000 in
theorem okM_60_0 : okMr 60 0 50 = true := by decide +kernel
set_option maxRecDepth 100000 in
theorem okM_61_0 : okMr 61 0 24 = true := by decide +kernel
set_option maxRecDepth 100000 in
theorem okM_62_0 : okMr 62 0 18 = true := by decide +kernel
set_option maxRecDepth 100000 in
theorem okM_63_0 : okMr 63 0 16 = true := by decide +kernel
set_option maxRecDepth 100000 in
theorem okM_64_0 : okMr 64 0 12 = true := by decide +kernel
set_option maxRecDepth 100000 in
theorem okM_65_0 : okMr 65 0 34 = true := by decide +kernel
set_option maxRecDepth 100000 in
theorem okM_66_0 : okMr 66 0 34 = true := by decide +kernel
set_option maxRecDepth 100000 in
theorem okM_67_0 : okMr 67 0 26 = true := by decide +kernel
set_option maxRecDepth 100000 in
theorem okM_68_0 : okMr 68 0 45 = true := by decide +kernel
set_option maxRecDepth 100000 in
theorem okM_68_1 : okMr 68 45 45 = true := by decide +kernel
set_option maxRecDepth 100000 in
theorem okM_68_2 : okMr 68 90 41 = true := by decide +kernel
set_option maxRecDepth 100000 in
theorem okM_69_0 : okMr 69 0 52 = true := by decide +kernel
set_option maxRecDepth 100000 in
theorem okM_70_0 : okMr 70 0 55 = true := by decide +kernel
set_option maxRecDepth 100000 in
theorem okM_70_1 : okMr 70 55 56 = true := by decide +kernel
set_option maxRecDepth 100000 in
theorem okM_70_2 : okMr 70 111 54 = true := by decide +kernel
set_option maxRecDepth 100000 in
theorem okM_70_3 : okMr 70 165 68 = true := by decide +kernel
set_option maxRecDepth 100000 in
theorem okM_71_0 : okMr 71 0 49 = true := by decide +kernel
set_option maxRecDepth 100000 in
theorem okM_71_1 : okMr 71 49 25 = true := by decide +kernel
set_option maxRecDepth 100000 in
theorem okM_72_0 : okMr 72 0 44 = true := by decide +kernel
set_option maxRecDepth 100000 in
theorem okM_72_1 : okMr 72 44 22 = true := by decide +kernel
set_option maxRecDepth 100000 in
theorem okM_73_0 : okMr 73 0 64 = true := by decide +kernel
set_option maxRecDepth 100000 in
theorem okM_73_1 : okMr 73 64 20 = true := by decide +kernel
set_option maxRecDepth 100000 in
theorem okM_74_0 : okMr 74 0 66 = true := by decide +kernel
set_option maxRecDepth 100000 in
theorem okM_75_0 : okMr 75 0 58 = true := by decide +kernel
set_option maxRecDepth 100000 in
theorem okM_75_1 : okMr 75 58 27 = true := by decide +kernel
set_option maxRecDepth 100000 in
theorem okM_76_0 : okMr 76 0 64 = true := by decide +kernel
set_option maxRecDepth 100000 in
theorem okM_77_0 : okMr 77 0 102 = true := by decide +kernel
set_option maxRecDepth 100000 in
theorem okM_77_1 : okMr 77 102 48 = true := by decide +kernel
set_option maxRecDepth 100000 in
theorem okM_77_2 : okMr 77 150 17 = true := by decide +kernel
set_option maxRecDepth 100000 in
theorem okM_78_0 : okMr 78 0 52 = true := by decide +kernel
set_option maxRecDepth 100000 in
theorem okM_78_1 : okMr 78 52 30 = true := by decide +kernel
set_option maxRecDepth 100000 in
theorem okM_79_0 : okMr 79 0 50 = true := by decide +kernel
set_option maxRecDepth 100000 in
theorem okM_79_1 : okMr 79 50 17 = true := by decide +kernel
set_option maxRecDepth 100000 in
theorem okM_80_0 : okMr 80 0 43 = true := by decide +kernel
set_option maxRecDepth 100000 in
theorem okM_81_0 : okMr 81 0 63 = true := by decide +kernel
set_option maxRecDepth 100000 in
theorem okM_82_0 : okMr 82 0 110 = true := by decide +kernel
set_option maxRecDepth 100000 in
theorem okM_82_1 : okMr 82 110 35 = true := by decide +kernel
set_option maxRecDepth 100000 in
theorem okM_83_0 : okMr 83 0 47 = true := by decide +kernel
set_option maxRecDepth 100000 in
theorem okM_84_0 : okMr 84 0 60 = true := by decide +kernel
set_option maxRecDepth 100000 in
theorem okM_85_0 : okMr 85 0 55 = true := by decide +kernel
set_option maxRecDepth 100000 in
theorem okM_85_1 : okMr 85 55 43 = true := by decide +kernel
set_option maxRecDepth 100000 in
theorem okM_86_0 : okMr 86 0 32 = true := by decide +kernel
set_option maxRecDepth 100000 in
theorem okM_87_0 : okMr 87 0 51 = true := by decide +kernel
set_option maxRecDepth 100000 in
theorem okM_87_1 : okMr 87 51 69 = true := by decide +kernel
set_option maxRecDepth 100000 in
theorem okM_88_0 : okMr 88 0 21 = true := by decide +kernel
set_option maxRecDepth 100000 in
theorem okM_89_0 : okMr 89 0 53 = true := by decide +kernel
set_option maxRecDepth 100000 in
theorem okM_89_1 : okMr 89 53 77 = true := by decide +kernel
set_option maxRecDepth 100000 in
theorem okM_90_0 : okMr 90 0 48 = true := by decide +kernel
set_option maxRecDepth 100000 in
theorem okM_91_0 : okMr 91 0 57 = true := by decide +kernel
set_option maxRecDepth 100000 in
theorem okM_92_0 : okMr 92 0 77 = true := by decide +kernel
set_option maxRecDepth 100000 in
theorem okM_93_0 : okMr 93 0 56 = true := by decide +kernel
set_option maxRecDepth 100000 in
theorem okM_93_1 : okMr 93 56 20 = true := by decide +kernel
set_option maxRecDepth 100000 in
theorem okM_94_0 : okMr 94 0 54 = true := by decide +kernel
set_option maxRecDepth 100000 in
theorem okM_94_1 : okMr 94 54 52 = true := by decide +kernel
set_option maxRecDepth 100000 in
theorem okM_95_0 : okMr 95 0 43 = true := by decide +kernel
set_option maxRecDepth 100000 in
theorem okM_96_0 : okMr 96 0 54 = true := by decide +kernel
set_option maxRecDepth 100000 in
theorem okM_96_1 : okMr 96 54 52 = true := by decide +kernel
set_option maxRecDepth 100000 in
theorem okM_97_0 : okMr 97 0 63 = true := by decide +kernel
set_option maxRecDepth 100000 in
theorem okM_98_0 : okMr 98 0 87 = true := by decide +kernel
set_option maxRecDepth 100000 in
theorem okM_99_0 : okMr 99 0 33 = true := by decide +kernel
set_option maxRecDepth 100000 in
theorem okM_100_0 : okMr 100 0 51 = true := by decide +kernel
set_option maxRecDepth 100000 in
theorem okM_101_0 : okMr 101 0 35 = true := by decide +kernel
