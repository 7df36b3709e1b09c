set_option maxRecDepth 100000 in
theorem okM_106_0 : okMr 106 0 43 = true := by decide +kernel
set_option maxRecDepth 100000 in
theorem okM_107_0 : okMr 107 0 30 = true := by decide +kernel
set_option maxRecDepth 100000 in
theorem okM_108_0 : okMr 108 0 36 = true := by decide +kernel
set_option maxRecDepth 100000 in
theorem okM_109_0 : okMr 109 0 136 = true := by decide +kernel
set_option maxRecDepth 100000 in
theorem okM_109_1 : okMr 109 136 9 = true := by decide +kernel
set_option maxRecDepth 100000 in
theorem okM_110_0 : okMr 110 0 84 = true := by decide +kernel
set_option maxRecDepth 100000 in
theorem okM_111_0 : okMr 111 0 16 = true := by decide +kernel
set_option maxRecDepth 100000 in
theorem okM_112_0 : okMr 112 0 15 = true := by decide +kernel
set_option maxRecDepth 100000 in
theorem okM_113_0 : okMr 113 0 27 = true := by decide +kernel
set_option maxRecDepth 100000 in
theorem okM_114_0 : okMr 114 0 27 = true := by decide +kernel
set_option maxRecDepth 100000 in
theorem okM_115_0 : okMr 115 0 63 = true := by decide +kernel
set_option maxRecDepth 100000 in
theorem okM_116_0 : okMr 116 0 28 = true := by decide +kernel
set_option maxRecDepth 100000 in
theorem okM_117_0 : okMr 117 0 46 = true := by decide +kernel
set_option maxRecDepth 100000 in
theorem okM_118_0 : okMr 118 0 26 = true := by decide +kernel
set_option maxRecDepth 100000 in
theorem okM_119_0 : okMr 119 0 99 = true := by decide +kernel
set_option maxRecDepth 100000 in
theorem okM_120_0 : okMr 120 0 42 = true := by decide +kernel
set_option maxRecDepth 100000 in
theorem okM_121_0 : okMr 121 0 57 = true := by decide +kernel
set_option maxRecDepth 100000 in
theorem okM_122_0 : okMr 122 0 112 = true := by decide +kernel
set_option maxRecDepth 100000 in
theorem okM_122_1 : okMr 122 112 83 = true := by decide +kernel
set_option maxRecDepth 100000 in
theorem okM_123_0 : okMr 123 0 44 = true := by decide +kernel
set_option maxRecDepth 100000 in
theorem okM_124_0 : okMr 124 0 44 = true := by decide +kernel
set_option maxRecDepth 100000 in
theorem okM_125_0 : okMr 125 0 28 = true := by decide +kernel
set_option maxRecDepth 100000 in
theorem okM_126_0 : okMr 126 0 30 = true := by decide +kernel
set_option maxRecDepth 100000 in
theorem okM_127_0 : okMr 127 0 101 = true := by decide +kernel
set_option maxRecDepth 100000 in
theorem okM_128_0 : okMr 128 0 104 = true := by decide +kernel
set_option maxRecDepth 100000 in
theorem okM_128_1 : okMr 128 104 99 = true := by decide +kernel
set_option maxRecDepth 100000 in
theorem okM_129_0 : okMr 129 0 30 = true := by decide +kernel
set_option maxRecDepth 100000 in
theorem okM_130_0 : okMr 130 0 25 = true := by decide +kernel
set_option maxRecDepth 100000 in
theorem okM_131_0 : okMr 131 0 55 = true := by decide +kernel
set_option maxRecDepth 100000 in
theorem okM_132_0 : okMr 132 0 26 = true := by decide +kernel
set_option maxRecDepth 100000 in
theorem okM_133_0 : okMr 133 0 90 = true := by decide +kernel
set_option maxRecDepth 100000 in
theorem okM_133_1 : okMr 133 90 113 = true := by decide +kernel
set_option maxRecDepth 100000 in
theorem okM_133_2 : okMr 133 203 115 = true := by decide +kernel
set_option maxRecDepth 100000 in
theorem okM_133_3 : okMr 133 318 108 = true := by decide +kernel
set_option maxRecDepth 100000 in
theorem okM_134_0 : okMr 134 0 44 = true := by decide +kernel
set_option maxRecDepth 100000 in
theorem okM_135_0 : okMr 135 0 126 = true := by decide +kernel
set_option maxRecDepth 100000 in
theorem okM_135_1 : okMr 135 126 44 = true := by decide +kernel
set_option maxRecDepth 100000 in
theorem okM_136_0 : okMr 136 0 30 = true := by decide +kernel
set_option maxRecDepth 100000 in
theorem okM_137_0 : okMr 137 0 22 = true := by decide +kernel
set_option maxRecDepth 100000 in
theorem okM_138_0 : okMr 138 0 70 = true := by decide +kernel
set_option maxRecDepth 100000 in
theorem okM_139_0 : okMr 139 0 16 = true := by decide +kernel
set_option maxRecDepth 100000 in
theorem okM_140_0 : okMr 140 0 95 = true := by decide +kernel
set_option maxRecDepth 100000 in
theorem okM_140_1 : okMr 140 95 65 = true := by decide +kernel
set_option maxRecDepth 100000 in
theorem okM_141_0 : okMr 141 0 139 = true := by decide +kernel
set_option maxRecDepth 100000 in
theorem okM_141_1 : okMr 141 139 17 = true := by decide +kernel
set_option maxRecDepth 100000 in
theorem okM_142_0 : okMr 142 0 65 = true := by decide +kernel
set_option maxRecDepth 100000 in
theorem okM_143_0 : okMr 143 0 80 = true := by decide +kernel
set_option maxRecDepth 100000 in
theorem okM_144_0 : okMr 144 0 30 = true := by decide +kernel
set_option maxRecDepth 100000 in
theorem okM_145_0 : okMr 145 0 39 = true := by decide +kernel
set_option maxRecDepth 100000 in
theorem okM_146_0 : okMr 146 0 37 = true := by decide +kernel
set_option maxRecDepth 100000 in
theorem okM_147_0 : okMr 147 0 41 = true := by decide +kernel
set_option maxRecDepth 100000 in
theorem okM_148_0 : okMr 148 0 66 = true := by decide +kernel
set_option maxRecDepth 100000 in
theorem okM_149_0 : okMr 149 0 76 = true := by decide +kernel
set_option maxRecDepth 100000 in
theorem okM_150_0 : okMr 150 0 28 = true := by decide +kernel
set_option maxRecDepth 100000 in
theorem okM_151_0 : okMr 151 0 90 = true := by decide +kernel
set_option maxRecDepth 100000 in
theorem okM_151_1 : okMr 151 90 57 = true := by decide +kernel
set_option maxRecDepth 100000 in
theorem okM_152_0 : okMr 152 0 112 = true := by decide +kernel
set_option maxRecDepth 100000 in
theorem okM_153_0 : okMr 153 0 78 = true := by decide +kernel
set_option maxRecDepth 100000 in
theorem okM_154_0 : okMr 154 0 104 = true := by decide +kernel
