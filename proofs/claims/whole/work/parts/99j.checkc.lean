set_option maxRecDepth 100000 in
theorem okM_101_0 : okMr 101 0 101 = true := by decide +kernel
set_option maxRecDepth 100000 in
theorem okM_102_0 : okMr 102 0 21 = true := by decide +kernel
set_option maxRecDepth 100000 in
theorem okM_103_0 : okMr 103 0 16 = true := by decide +kernel
set_option maxRecDepth 100000 in
theorem okM_104_0 : okMr 104 0 15 = true := by decide +kernel
set_option maxRecDepth 100000 in
theorem okM_105_0 : okMr 105 0 20 = true := by decide +kernel
set_option maxRecDepth 100000 in
theorem okM_106_0 : okMr 106 0 43 = true := by decide +kernel
set_option maxRecDepth 100000 in
theorem okM_107_0 : okMr 107 0 30 = true := by decide +kernel
set_option maxRecDepth 100000 in
theorem okM_108_0 : okMr 108 0 36 = true := by decide +kernel
set_option maxRecDepth 100000 in
theorem okM_109_0 : okMr 109 0 88 = true := by decide +kernel
set_option maxRecDepth 100000 in
theorem okM_109_1 : okMr 109 88 57 = true := by decide +kernel
set_option maxRecDepth 100000 in
theorem okM_110_0 : okMr 110 0 60 = true := by decide +kernel
set_option maxRecDepth 100000 in
theorem okM_110_1 : okMr 110 60 24 = true := by decide +kernel
set_option maxRecDepth 100000 in
theorem okM_111_0 : okMr 111 0 16 = true := by decide +kernel
set_option maxRecDepth 100000 in
theorem okM_112_0 : okMr 112 0 15 = true := by decide +kernel
set_option maxRecDepth 100000 in
theorem okM_113_0 : okMr 113 0 27 = true := by decide +kernel
set_option maxRecDepth 100000 in
theorem okM_114_0 : okMr 114 0 27 = true := by decide +kernel
set_option maxRecDepth 100000 in
theorem okM_115_0 : okMr 115 0 52 = true := by decide +kernel
set_option maxRecDepth 100000 in
theorem okM_115_1 : okMr 115 52 11 = true := by decide +kernel
set_option maxRecDepth 100000 in
theorem okM_116_0 : okMr 116 0 28 = true := by decide +kernel
set_option maxRecDepth 100000 in
theorem okM_117_0 : okMr 117 0 46 = true := by decide +kernel
set_option maxRecDepth 100000 in
theorem okM_118_0 : okMr 118 0 26 = true := by decide +kernel
set_option maxRecDepth 100000 in
theorem okM_119_0 : okMr 119 0 60 = true := by decide +kernel
set_option maxRecDepth 100000 in
theorem okM_119_1 : okMr 119 60 39 = true := by decide +kernel
set_option maxRecDepth 100000 in
theorem okM_120_0 : okMr 120 0 42 = true := by decide +kernel
set_option maxRecDepth 100000 in
theorem okM_121_0 : okMr 121 0 57 = true := by decide +kernel
set_option maxRecDepth 100000 in
theorem okM_122_0 : okMr 122 0 54 = true := by decide +kernel
set_option maxRecDepth 100000 in
theorem okM_122_1 : okMr 122 54 58 = true := by decide +kernel
set_option maxRecDepth 100000 in
theorem okM_122_2 : okMr 122 112 56 = true := by decide +kernel
set_option maxRecDepth 100000 in
theorem okM_122_3 : okMr 122 168 27 = true := by decide +kernel
set_option maxRecDepth 100000 in
theorem okM_123_0 : okMr 123 0 44 = true := by decide +kernel
set_option maxRecDepth 100000 in
theorem okM_124_0 : okMr 124 0 44 = true := by decide +kernel
set_option maxRecDepth 100000 in
theorem okM_125_0 : okMr 125 0 28 = true := by decide +kernel
set_option maxRecDepth 100000 in
theorem okM_126_0 : okMr 126 0 30 = true := by decide +kernel
set_option maxRecDepth 100000 in
theorem okM_127_0 : okMr 127 0 101 = true := by decide +kernel
set_option maxRecDepth 100000 in
theorem okM_128_0 : okMr 128 0 55 = true := by decide +kernel
set_option maxRecDepth 100000 in
theorem okM_128_1 : okMr 128 55 49 = true := by decide +kernel
set_option maxRecDepth 100000 in
theorem okM_128_2 : okMr 128 104 64 = true := by decide +kernel
set_option maxRecDepth 100000 in
theorem okM_128_3 : okMr 128 168 35 = true := by decide +kernel
set_option maxRecDepth 100000 in
theorem okM_129_0 : okMr 129 0 30 = true := by decide +kernel
set_option maxRecDepth 100000 in
theorem okM_130_0 : okMr 130 0 25 = true := by decide +kernel
set_option maxRecDepth 100000 in
theorem okM_131_0 : okMr 131 0 55 = true := by decide +kernel
set_option maxRecDepth 100000 in
theorem okM_132_0 : okMr 132 0 26 = true := by decide +kernel
set_option maxRecDepth 100000 in
theorem okM_133_0 : okMr 133 0 46 = true := by decide +kernel
set_option maxRecDepth 100000 in
theorem okM_133_1 : okMr 133 46 44 = true := by decide +kernel
set_option maxRecDepth 100000 in
theorem okM_133_2 : okMr 133 90 57 = true := by decide +kernel
set_option maxRecDepth 100000 in
theorem okM_133_3 : okMr 133 147 56 = true := by decide +kernel
set_option maxRecDepth 100000 in
theorem okM_133_4 : okMr 133 203 58 = true := by decide +kernel
set_option maxRecDepth 100000 in
theorem okM_133_5 : okMr 133 261 57 = true := by decide +kernel
set_option maxRecDepth 100000 in
theorem okM_133_6 : okMr 133 318 55 = true := by decide +kernel
set_option maxRecDepth 100000 in
theorem okM_133_7 : okMr 133 373 53 = true := by decide +kernel
set_option maxRecDepth 100000 in
theorem okM_134_0 : okMr 134 0 44 = true := by decide +kernel
set_option maxRecDepth 100000 in
theorem okM_135_0 : okMr 135 0 43 = true := by decide +kernel
set_option maxRecDepth 100000 in
theorem okM_135_1 : okMr 135 43 83 = true := by decide +kernel
set_option maxRecDepth 100000 in
theorem okM_135_2 : okMr 135 126 44 = true := by decide +kernel
set_option maxRecDepth 100000 in
theorem okM_136_0 : okMr 136 0 30 = true := by decide +kernel
set_option maxRecDepth 100000 in
theorem okM_137_0 : okMr 137 0 22 = true := by decide +kernel
set_option maxRecDepth 100000 in
theorem okM_138_0 : okMr 138 0 51 = true := by decide +kernel
set_option maxRecDepth 100000 in
theorem okM_138_1 : okMr 138 51 19 = true := by decide +kernel
set_option maxRecDepth 100000 in
theorem okM_139_0 : okMr 139 0 16 = true := by decide +kernel
set_option maxRecDepth 100000 in
theorem okM_140_0 : okMr 140 0 54 = true := by decide +kernel
set_option maxRecDepth 100000 in
theorem okM_140_1 : okMr 140 54 41 = true := by decide +kernel
set_option maxRecDepth 100000 in
theorem okM_140_2 : okMr 140 95 44 = true := by decide +kernel
set_option maxRecDepth 100000 in
theorem okM_140_3 : okMr 140 139 21 = true := by decide +kernel
set_option maxRecDepth 100000 in
theorem okM_141_0 : okMr 141 0 94 = true := by decide +kernel
set_option maxRecDepth 100000 in
theorem okM_141_1 : okMr 141 94 45 = true := by decide +kernel
set_option maxRecDepth 100000 in
theorem okM_141_2 : okMr 141 139 17 = true := by decide +kernel
set_option maxRecDepth 100000 in
theorem okM_142_0 : okMr 142 0 51 = true := by decide +kernel
set_option maxRecDepth 100000 in
theorem okM_142_1 : okMr 142 51 14 = true := by decide +kernel
set_option maxRecDepth 100000 in
theorem okM_143_0 : okMr 143 0 48 = true := by decide +kernel
set_option maxRecDepth 100000 in
theorem okM_143_1 : okMr 143 48 32 = true := by decide +kernel
set_option maxRecDepth 100000 in
theorem okM_144_0 : okMr 144 0 30 = true := by decide +kernel
set_option maxRecDepth 100000 in
theorem okM_145_0 : okMr 145 0 39 = true := by decide +kernel
set_option maxRecDepth 100000 in
theorem okM_146_0 : okMr 146 0 37 = true := by decide +kernel
set_option maxRecDepth 100000 in
theorem okM_147_0 : okMr 147 0 41 = true := by decide +kernel
set_option maxRecDepth 100000 in
theorem okM_148_0 : okMr 148 0 50 = true := by decide +kernel
set_option maxRecDepth 100000 in
theorem okM_148_1 : okMr 148 50 16 = true := by decide +kernel
set_option maxRecDepth 100000 in
theorem okM_149_0 : okMr 149 0 44 = true := by decide +kernel
set_option maxRecDepth 100000 in
theorem okM_149_1 : okMr 149 44 32 = true := by decide +kernel
set_option maxRecDepth 100000 in
theorem okM_150_0 : okMr 150 0 28 = true := by decide +kernel
set_option maxRecDepth 100000 in
theorem okM_151_0 : okMr 151 0 45 = true := by decide +kernel
set_option maxRecDepth 100000 in
theorem okM_151_1 : okMr 151 45 45 = true := by decide +kernel
set_option maxRecDepth 100000 in
theorem okM_151_2 : okMr 151 90 57 = true := by decide +kernel
set_option maxRecDepth 100000 in
theorem okM_152_0 : okMr 152 0 99 = true := by decide +kernel
