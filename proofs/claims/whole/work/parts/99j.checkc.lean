set_option maxRecDepth 100000 in
theorem okM_102_0 : okMr 102 0 40 = true := by decide +kernel
set_option maxRecDepth 100000 in
theorem okM_103_0 : okMr 103 0 101 = true := by decide +kernel
set_option maxRecDepth 100000 in
theorem okM_104_0 : okMr 104 0 21 = true := by decide +kernel
set_option maxRecDepth 100000 in
theorem okM_105_0 : okMr 105 0 16 = true := by decide +kernel
set_option maxRecDepth 100000 in
theorem okM_106_0 : okMr 106 0 15 = true := by decide +kernel
set_option maxRecDepth 100000 in
theorem okM_107_0 : okMr 107 0 20 = true := by decide +kernel
set_option maxRecDepth 100000 in
theorem okM_108_0 : okMr 108 0 43 = true := by decide +kernel
set_option maxRecDepth 100000 in
theorem okM_109_0 : okMr 109 0 30 = true := by decide +kernel
set_option maxRecDepth 100000 in
theorem okM_110_0 : okMr 110 0 36 = true := by decide +kernel
set_option maxRecDepth 100000 in
theorem okM_111_0 : okMr 111 0 88 = true := by decide +kernel
set_option maxRecDepth 100000 in
theorem okM_111_1 : okMr 111 88 57 = true := by decide +kernel
set_option maxRecDepth 100000 in
theorem okM_112_0 : okMr 112 0 60 = true := by decide +kernel
set_option maxRecDepth 100000 in
theorem okM_112_1 : okMr 112 60 24 = true := by decide +kernel
set_option maxRecDepth 100000 in
theorem okM_113_0 : okMr 113 0 16 = true := by decide +kernel
set_option maxRecDepth 100000 in
theorem okM_114_0 : okMr 114 0 15 = true := by decide +kernel
set_option maxRecDepth 100000 in
theorem okM_115_0 : okMr 115 0 27 = true := by decide +kernel
set_option maxRecDepth 100000 in
theorem okM_116_0 : okMr 116 0 27 = true := by decide +kernel
set_option maxRecDepth 100000 in
theorem okM_117_0 : okMr 117 0 52 = true := by decide +kernel
set_option maxRecDepth 100000 in
theorem okM_117_1 : okMr 117 52 11 = true := by decide +kernel
set_option maxRecDepth 100000 in
theorem okM_118_0 : okMr 118 0 28 = true := by decide +kernel
set_option maxRecDepth 100000 in
theorem okM_119_0 : okMr 119 0 46 = true := by decide +kernel
set_option maxRecDepth 100000 in
theorem okM_120_0 : okMr 120 0 26 = true := by decide +kernel
set_option maxRecDepth 100000 in
theorem okM_121_0 : okMr 121 0 60 = true := by decide +kernel
set_option maxRecDepth 100000 in
theorem okM_121_1 : okMr 121 60 39 = true := by decide +kernel
set_option maxRecDepth 100000 in
theorem okM_122_0 : okMr 122 0 42 = true := by decide +kernel
set_option maxRecDepth 100000 in
theorem okM_123_0 : okMr 123 0 57 = true := by decide +kernel
set_option maxRecDepth 100000 in
theorem okM_124_0 : okMr 124 0 54 = true := by decide +kernel
set_option maxRecDepth 100000 in
theorem okM_124_1 : okMr 124 54 58 = true := by decide +kernel
set_option maxRecDepth 100000 in
theorem okM_124_2 : okMr 124 112 56 = true := by decide +kernel
set_option maxRecDepth 100000 in
theorem okM_124_3 : okMr 124 168 27 = true := by decide +kernel
set_option maxRecDepth 100000 in
theorem okM_125_0 : okMr 125 0 44 = true := by decide +kernel
set_option maxRecDepth 100000 in
theorem okM_126_0 : okMr 126 0 44 = true := by decide +kernel
set_option maxRecDepth 100000 in
theorem okM_127_0 : okMr 127 0 28 = true := by decide +kernel
set_option maxRecDepth 100000 in
theorem okM_128_0 : okMr 128 0 30 = true := by decide +kernel
set_option maxRecDepth 100000 in
theorem okM_129_0 : okMr 129 0 101 = true := by decide +kernel
set_option maxRecDepth 100000 in
theorem okM_130_0 : okMr 130 0 55 = true := by decide +kernel
set_option maxRecDepth 100000 in
theorem okM_130_1 : okMr 130 55 49 = true := by decide +kernel
set_option maxRecDepth 100000 in
theorem okM_130_2 : okMr 130 104 64 = true := by decide +kernel
set_option maxRecDepth 100000 in
theorem okM_130_3 : okMr 130 168 35 = true := by decide +kernel
set_option maxRecDepth 100000 in
theorem okM_131_0 : okMr 131 0 30 = true := by decide +kernel
set_option maxRecDepth 100000 in
theorem okM_132_0 : okMr 132 0 25 = true := by decide +kernel
set_option maxRecDepth 100000 in
theorem okM_133_0 : okMr 133 0 55 = true := by decide +kernel
set_option maxRecDepth 100000 in
theorem okM_134_0 : okMr 134 0 26 = true := by decide +kernel
set_option maxRecDepth 100000 in
theorem okM_135_0 : okMr 135 0 46 = true := by decide +kernel
set_option maxRecDepth 100000 in
theorem okM_135_1 : okMr 135 46 44 = true := by decide +kernel
set_option maxRecDepth 100000 in
theorem okM_135_2 : okMr 135 90 57 = true := by decide +kernel
set_option maxRecDepth 100000 in
theorem okM_135_3 : okMr 135 147 56 = true := by decide +kernel
set_option maxRecDepth 100000 in
theorem okM_135_4 : okMr 135 203 58 = true := by decide +kernel
set_option maxRecDepth 100000 in
theorem okM_135_5 : okMr 135 261 57 = true := by decide +kernel
set_option maxRecDepth 100000 in
theorem okM_135_6 : okMr 135 318 55 = true := by decide +kernel
set_option maxRecDepth 100000 in
theorem okM_135_7 : okMr 135 373 53 = true := by decide +kernel
set_option maxRecDepth 100000 in
theorem okM_136_0 : okMr 136 0 44 = true := by decide +kernel
set_option maxRecDepth 100000 in
theorem okM_137_0 : okMr 137 0 43 = true := by decide +kernel
set_option maxRecDepth 100000 in
theorem okM_137_1 : okMr 137 43 83 = true := by decide +kernel
set_option maxRecDepth 100000 in
theorem okM_137_2 : okMr 137 126 44 = true := by decide +kernel
set_option maxRecDepth 100000 in
theorem okM_138_0 : okMr 138 0 30 = true := by decide +kernel
set_option maxRecDepth 100000 in
theorem okM_139_0 : okMr 139 0 22 = true := by decide +kernel
set_option maxRecDepth 100000 in
theorem okM_140_0 : okMr 140 0 51 = true := by decide +kernel
set_option maxRecDepth 100000 in
theorem okM_140_1 : okMr 140 51 19 = true := by decide +kernel
set_option maxRecDepth 100000 in
theorem okM_141_0 : okMr 141 0 16 = true := by decide +kernel
set_option maxRecDepth 100000 in
theorem okM_142_0 : okMr 142 0 54 = true := by decide +kernel
set_option maxRecDepth 100000 in
theorem okM_142_1 : okMr 142 54 41 = true := by decide +kernel
set_option maxRecDepth 100000 in
theorem okM_142_2 : okMr 142 95 44 = true := by decide +kernel
set_option maxRecDepth 100000 in
theorem okM_142_3 : okMr 142 139 21 = true := by decide +kernel
set_option maxRecDepth 100000 in
theorem okM_143_0 : okMr 143 0 94 = true := by decide +kernel
set_option maxRecDepth 100000 in
theorem okM_143_1 : okMr 143 94 45 = true := by decide +kernel
set_option maxRecDepth 100000 in
theorem okM_143_2 : okMr 143 139 17 = true := by decide +kernel
set_option maxRecDepth 100000 in
theorem okM_144_0 : okMr 144 0 51 = true := by decide +kernel
set_option maxRecDepth 100000 in
theorem okM_144_1 : okMr 144 51 14 = true := by decide +kernel
set_option maxRecDepth 100000 in
theorem okM_145_0 : okMr 145 0 48 = true := by decide +kernel
set_option maxRecDepth 100000 in
theorem okM_145_1 : okMr 145 48 32 = true := by decide +kernel
set_option maxRecDepth 100000 in
theorem okM_146_0 : okMr 146 0 30 = true := by decide +kernel
set_option maxRecDepth 100000 in
theorem okM_147_0 : okMr 147 0 39 = true := by decide +kernel
set_option maxRecDepth 100000 in
theorem okM_148_0 : okMr 148 0 37 = true := by decide +kernel
set_option maxRecDepth 100000 in
theorem okM_149_0 : okMr 149 0 41 = true := by decide +kernel
set_option maxRecDepth 100000 in
theorem okM_150_0 : okMr 150 0 50 = true := by decide +kernel
set_option maxRecDepth 100000 in
theorem okM_150_1 : okMr 150 50 16 = true := by decide +kernel
set_option maxRecDepth 100000 in
theorem okM_151_0 : okMr 151 0 44 = true := by decide +kernel
set_option maxRecDepth 100000 in
theorem okM_151_1 : okMr 151 44 32 = true := by decide +kernel
set_option maxRecDepth 100000 in
theorem okM_152_0 : okMr 152 0 28 = true := by decide +kernel
set_option maxRecDepth 100000 in
theorem okM_153_0 : okMr 153 0 45 = true := by decide +kernel
set_option maxRecDepth 100000 in
theorem okM_153_1 : okMr 153 45 45 = true := by decide +kernel
set_option maxRecDepth 100000 in
theorem okM_153_2 : okMr 153 90 57 = true := by decide +kernel
set_option maxRecDepth 100000 in
theorem okM_154_0 : okMr 154 0 99 = true := by decide +kernel
