set_option maxRecDepth 100000 in
theorem okM_102_0 : okMr 102 0 32 = true := by decide +kernel
set_option maxRecDepth 100000 in
theorem okM_103_0 : okMr 103 0 51 = true := by decide +kernel
set_option maxRecDepth 100000 in
theorem okM_103_1 : okMr 103 51 69 = true := by decide +kernel
set_option maxRecDepth 100000 in
theorem okM_104_0 : okMr 104 0 21 = true := by decide +kernel
set_option maxRecDepth 100000 in
theorem okM_105_0 : okMr 105 0 53 = true := by decide +kernel
set_option maxRecDepth 100000 in
theorem okM_105_1 : okMr 105 53 77 = true := by decide +kernel
set_option maxRecDepth 100000 in
theorem okM_106_0 : okMr 106 0 48 = true := by decide +kernel
set_option maxRecDepth 100000 in
theorem okM_107_0 : okMr 107 0 57 = true := by decide +kernel
set_option maxRecDepth 100000 in
theorem okM_108_0 : okMr 108 0 77 = true := by decide +kernel
set_option maxRecDepth 100000 in
theorem okM_109_0 : okMr 109 0 56 = true := by decide +kernel
set_option maxRecDepth 100000 in
theorem okM_109_1 : okMr 109 56 20 = true := by decide +kernel
set_option maxRecDepth 100000 in
theorem okM_110_0 : okMr 110 0 54 = true := by decide +kernel
set_option maxRecDepth 100000 in
theorem okM_110_1 : okMr 110 54 52 = true := by decide +kernel
set_option maxRecDepth 100000 in
theorem okM_111_0 : okMr 111 0 43 = true := by decide +kernel
set_option maxRecDepth 100000 in
theorem okM_112_0 : okMr 112 0 54 = true := by decide +kernel
set_option maxRecDepth 100000 in
theorem okM_112_1 : okMr 112 54 52 = true := by decide +kernel
set_option maxRecDepth 100000 in
theorem okM_113_0 : okMr 113 0 63 = true := by decide +kernel
set_option maxRecDepth 100000 in
theorem okM_114_0 : okMr 114 0 87 = true := by decide +kernel
set_option maxRecDepth 100000 in
theorem okM_115_0 : okMr 115 0 33 = true := by decide +kernel
set_option maxRecDepth 100000 in
theorem okM_116_0 : okMr 116 0 51 = true := by decide +kernel
set_option maxRecDepth 100000 in
theorem okM_117_0 : okMr 117 0 35 = true := by decide +kernel
set_option maxRecDepth 100000 in
theorem okM_118_0 : okMr 118 0 40 = true := by decide +kernel
set_option maxRecDepth 100000 in
theorem okM_119_0 : okMr 119 0 101 = true := by decide +kernel
set_option maxRecDepth 100000 in
theorem okM_120_0 : okMr 120 0 21 = true := by decide +kernel
set_option maxRecDepth 100000 in
theorem okM_121_0 : okMr 121 0 16 = true := by decide +kernel
set_option maxRecDepth 100000 in
theorem okM_122_0 : okMr 122 0 15 = true := by decide +kernel
set_option maxRecDepth 100000 in
theorem okM_123_0 : okMr 123 0 20 = true := by decide +kernel
set_option maxRecDepth 100000 in
theorem okM_124_0 : okMr 124 0 43 = true := by decide +kernel
set_option maxRecDepth 100000 in
theorem okM_125_0 : okMr 125 0 30 = true := by decide +kernel
set_option maxRecDepth 100000 in
theorem okM_126_0 : okMr 126 0 36 = true := by decide +kernel
set_option maxRecDepth 100000 in
theorem okM_127_0 : okMr 127 0 88 = true := by decide +kernel
set_option maxRecDepth 100000 in
theorem okM_127_1 : okMr 127 88 57 = true := by decide +kernel
set_option maxRecDepth 100000 in
theorem okM_128_0 : okMr 128 0 11 = true := by decide +kernel
set_option maxRecDepth 100000 in
theorem okM_129_0 : okMr 129 0 14 = true := by decide +kernel
set_option maxRecDepth 100000 in
theorem okM_130_0 : okMr 130 0 25 = true := by decide +kernel
set_option maxRecDepth 100000 in
theorem okM_131_0 : okMr 131 0 7 = true := by decide +kernel
set_option maxRecDepth 100000 in
theorem okM_132_0 : okMr 132 0 37 = true := by decide +kernel
set_option maxRecDepth 100000 in
theorem okM_133_0 : okMr 133 0 15 = true := by decide +kernel
set_option maxRecDepth 100000 in
theorem okM_134_0 : okMr 134 0 19 = true := by decide +kernel
set_option maxRecDepth 100000 in
theorem okM_135_0 : okMr 135 0 10 = true := by decide +kernel
set_option maxRecDepth 100000 in
theorem okM_136_0 : okMr 136 0 15 = true := by decide +kernel
set_option maxRecDepth 100000 in
theorem okM_137_0 : okMr 137 0 17 = true := by decide +kernel
set_option maxRecDepth 100000 in
theorem okM_138_0 : okMr 138 0 37 = true := by decide +kernel
set_option maxRecDepth 100000 in
theorem okM_139_0 : okMr 139 0 33 = true := by decide +kernel
set_option maxRecDepth 100000 in
theorem okM_140_0 : okMr 140 0 18 = true := by decide +kernel
set_option maxRecDepth 100000 in
theorem okM_141_0 : okMr 141 0 39 = true := by decide +kernel
set_option maxRecDepth 100000 in
theorem okM_141_1 : okMr 141 39 14 = true := by decide +kernel
set_option maxRecDepth 100000 in
theorem okM_142_0 : okMr 142 0 11 = true := by decide +kernel
set_option maxRecDepth 100000 in
theorem okM_143_0 : okMr 143 0 11 = true := by decide +kernel
set_option maxRecDepth 100000 in
theorem okM_144_0 : okMr 144 0 17 = true := by decide +kernel
set_option maxRecDepth 100000 in
theorem okM_145_0 : okMr 145 0 9 = true := by decide +kernel
set_option maxRecDepth 100000 in
theorem okM_146_0 : okMr 146 0 10 = true := by decide +kernel
