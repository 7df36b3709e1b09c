set_option maxRecDepth 100000 in
theorem okM_154_1 : okMr 154 99 13 = true := by decide +kernel
set_option maxRecDepth 100000 in
theorem okM_155_0 : okMr 155 0 48 = true := by decide +kernel
set_option maxRecDepth 100000 in
theorem okM_155_1 : okMr 155 48 30 = true := by decide +kernel
set_option maxRecDepth 100000 in
theorem okM_156_0 : okMr 156 0 53 = true := by decide +kernel
set_option maxRecDepth 100000 in
theorem okM_156_1 : okMr 156 53 51 = true := by decide +kernel
set_option maxRecDepth 100000 in
theorem okM_156_2 : okMr 156 104 53 = true := by decide +kernel
set_option maxRecDepth 100000 in
theorem okM_156_3 : okMr 156 157 54 = true := by decide +kernel
set_option maxRecDepth 100000 in
theorem okM_157_0 : okMr 157 0 49 = true := by decide +kernel
set_option maxRecDepth 100000 in
theorem okM_157_1 : okMr 157 49 35 = true := by decide +kernel
set_option maxRecDepth 100000 in
theorem okM_158_0 : okMr 158 0 44 = true := by decide +kernel
set_option maxRecDepth 100000 in
theorem okM_159_0 : okMr 159 0 59 = true := by decide +kernel
set_option maxRecDepth 100000 in
theorem okM_160_0 : okMr 160 0 22 = true := by decide +kernel
set_option maxRecDepth 100000 in
theorem okM_161_0 : okMr 161 0 55 = true := by decide +kernel
set_option maxRecDepth 100000 in
theorem okM_161_1 : okMr 161 55 33 = true := by decide +kernel
set_option maxRecDepth 100000 in
theorem okM_162_0 : okMr 162 0 51 = true := by decide +kernel
set_option maxRecDepth 100000 in
theorem okM_162_1 : okMr 162 51 17 = true := by decide +kernel
set_option maxRecDepth 100000 in
theorem okM_163_0 : okMr 163 0 29 = true := by decide +kernel
set_option maxRecDepth 100000 in
theorem okM_164_0 : okMr 164 0 43 = true := by decide +kernel
set_option maxRecDepth 100000 in
theorem okM_165_0 : okMr 165 0 49 = true := by decide +kernel
set_option maxRecDepth 100000 in
theorem okM_165_1 : okMr 165 49 63 = true := by decide +kernel
set_option maxRecDepth 100000 in
theorem okM_165_2 : okMr 165 112 62 = true := by decide +kernel
set_option maxRecDepth 100000 in
theorem okM_165_3 : okMr 165 174 40 = true := by decide +kernel
set_option maxRecDepth 100000 in
theorem okM_166_0 : okMr 166 0 18 = true := by decide +kernel
set_option maxRecDepth 100000 in
theorem okM_167_0 : okMr 167 0 51 = true := by decide +kernel
set_option maxRecDepth 100000 in
theorem okM_167_1 : okMr 167 51 48 = true := by decide +kernel
set_option maxRecDepth 100000 in
theorem okM_167_2 : okMr 167 99 28 = true := by decide +kernel
set_option maxRecDepth 100000 in
theorem okM_168_0 : okMr 168 0 48 = true := by decide +kernel
set_option maxRecDepth 100000 in
theorem okM_168_1 : okMr 168 48 27 = true := by decide +kernel
set_option maxRecDepth 100000 in
theorem okM_169_0 : okMr 169 0 41 = true := by decide +kernel
set_option maxRecDepth 100000 in
theorem okM_170_0 : okMr 170 0 51 = true := by decide +kernel
set_option maxRecDepth 100000 in
theorem okM_170_1 : okMr 170 51 33 = true := by decide +kernel
set_option maxRecDepth 100000 in
theorem okM_171_0 : okMr 171 0 52 = true := by decide +kernel
set_option maxRecDepth 100000 in
theorem okM_171_1 : okMr 171 52 67 = true := by decide +kernel
set_option maxRecDepth 100000 in
theorem okM_172_0 : okMr 172 0 56 = true := by decide +kernel
set_option maxRecDepth 100000 in
theorem okM_173_0 : okMr 173 0 56 = true := by decide +kernel
set_option maxRecDepth 100000 in
theorem okM_173_1 : okMr 173 56 43 = true := by decide +kernel
set_option maxRecDepth 100000 in
theorem okM_174_0 : okMr 174 0 50 = true := by decide +kernel
set_option maxRecDepth 100000 in
theorem okM_174_1 : okMr 174 50 52 = true := by decide +kernel
set_option maxRecDepth 100000 in
theorem okM_175_0 : okMr 175 0 52 = true := by decide +kernel
set_option maxRecDepth 100000 in
theorem okM_175_1 : okMr 175 52 52 = true := by decide +kernel
set_option maxRecDepth 100000 in
theorem okM_176_0 : okMr 176 0 48 = true := by decide +kernel
set_option maxRecDepth 100000 in
theorem okM_177_0 : okMr 177 0 47 = true := by decide +kernel
set_option maxRecDepth 100000 in
theorem okM_177_1 : okMr 177 47 33 = true := by decide +kernel
set_option maxRecDepth 100000 in
theorem okM_178_0 : okMr 178 0 52 = true := by decide +kernel
set_option maxRecDepth 100000 in
theorem okM_178_1 : okMr 178 52 52 = true := by decide +kernel
set_option maxRecDepth 100000 in
theorem okM_179_0 : okMr 179 0 53 = true := by decide +kernel
set_option maxRecDepth 100000 in
theorem okM_180_0 : okMr 180 0 30 = true := by decide +kernel
set_option maxRecDepth 100000 in
theorem okM_181_0 : okMr 181 0 31 = true := by decide +kernel
set_option maxRecDepth 100000 in
theorem okM_182_0 : okMr 182 0 12 = true := by decide +kernel
set_option maxRecDepth 100000 in
theorem okM_183_0 : okMr 183 0 56 = true := by decide +kernel
set_option maxRecDepth 100000 in
theorem okM_184_0 : okMr 184 0 16 = true := by decide +kernel
set_option maxRecDepth 100000 in
theorem okM_185_0 : okMr 185 0 56 = true := by decide +kernel
set_option maxRecDepth 100000 in
theorem okM_186_0 : okMr 186 0 13 = true := by decide +kernel
set_option maxRecDepth 100000 in
theorem okM_187_0 : okMr 187 0 62 = true := by decide +kernel
set_option maxRecDepth 100000 in
theorem okM_188_0 : okMr 188 0 50 = true := by decide +kernel
set_option maxRecDepth 100000 in
theorem okM_188_1 : okMr 188 50 36 = true := by decide +kernel
set_option maxRecDepth 100000 in
theorem okM_189_0 : okMr 189 0 39 = true := by decide +kernel
set_option maxRecDepth 100000 in
theorem okM_190_0 : okMr 190 0 51 = true := by decide +kernel
set_option maxRecDepth 100000 in
theorem okM_191_0 : okMr 191 0 40 = true := by decide +kernel
set_option maxRecDepth 100000 in
theorem okM_192_0 : okMr 192 0 45 = true := by decide +kernel
set_option maxRecDepth 100000 in
theorem okM_193_0 : okMr 193 0 36 = true := by decide +kernel
set_option maxRecDepth 100000 in
theorem okM_194_0 : okMr 194 0 11 = true := by decide +kernel
set_option maxRecDepth 100000 in
theorem okM_195_0 : okMr 195 0 14 = true := by decide +kernel
set_option maxRecDepth 100000 in
theorem okM_196_0 : okMr 196 0 25 = true := by decide +kernel
set_option maxRecDepth 100000 in
theorem okM_197_0 : okMr 197 0 7 = true := by decide +kernel
set_option maxRecDepth 100000 in
theorem okM_198_0 : okMr 198 0 37 = true := by decide +kernel
set_option maxRecDepth 100000 in
theorem okM_199_0 : okMr 199 0 15 = true := by decide +kernel
set_option maxRecDepth 100000 in
theorem okM_200_0 : okMr 200 0 19 = true := by decide +kernel
set_option maxRecDepth 100000 in
theorem okM_201_0 : okMr 201 0 10 = true := by decide +kernel
set_option maxRecDepth 100000 in
theorem okM_202_0 : okMr 202 0 15 = true := by decide +kernel
set_option maxRecDepth 100000 in
theorem okM_203_0 : okMr 203 0 17 = true := by decide +kernel
set_option maxRecDepth 100000 in
theorem okM_204_0 : okMr 204 0 37 = true := by decide +kernel
set_option maxRecDepth 100000 in
theorem okM_205_0 : okMr 205 0 33 = true := by decide +kernel
set_option maxRecDepth 100000 in
theorem okM_206_0 : okMr 206 0 18 = true := by decide +kernel
set_option maxRecDepth 100000 in
theorem okM_207_0 : okMr 207 0 39 = true := by decide +kernel
set_option maxRecDepth 100000 in
theorem okM_207_1 : okMr 207 39 14 = true := by decide +kernel
set_option maxRecDepth 100000 in
theorem okM_208_0 : okMr 208 0 11 = true := by decide +kernel
set_option maxRecDepth 100000 in
theorem okM_209_0 : okMr 209 0 11 = true := by decide +kernel
set_option maxRecDepth 100000 in
theorem okM_210_0 : okMr 210 0 17 = true := by decide +kernel
set_option maxRecDepth 100000 in
theorem okM_211_0 : okMr 211 0 9 = true := by decide +kernel
set_option maxRecDepth 100000 in
theorem okM_212_0 : okMr 212 0 10 = true := by decide +kernel
