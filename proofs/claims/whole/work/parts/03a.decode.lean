theorem dX12_init_0 : decode cX12_init 0 = .ok (.aload_n 0, 1) := by decide +kernel
theorem dX12_init_1 : decode cX12_init 1 = .ok (.invokespecial 1, 3) := by decide +kernel
theorem dX12_init_4 : decode cX12_init 4 = .ok (.aload_n 0, 1) := by decide +kernel
theorem dX12_init_5 : decode cX12_init 5 = .ok (.bipush 7, 2) := by decide +kernel
theorem dX12_init_7 : decode cX12_init 7 = .ok (.newarray .int, 2) := by decide +kernel
theorem dX12_init_9 : decode cX12_init 9 = .ok (.putfield 7, 3) := by decide +kernel
theorem dX12_init_12 : decode cX12_init 12 = .ok (.aload_n 0, 1) := by decide +kernel
theorem dX12_init_13 : decode cX12_init 13 = .ok (.bipush 7, 2) := by decide +kernel
theorem dX12_init_15 : decode cX12_init 15 = .ok (.newarray .int, 2) := by decide +kernel
theorem dX12_init_17 : decode cX12_init 17 = .ok (.putfield 13, 3) := by decide +kernel
theorem dX12_init_20 : decode cX12_init 20 = .ok (.aload_n 0, 1) := by decide +kernel
theorem dX12_init_21 : decode cX12_init 21 = .ok (.bipush 7, 2) := by decide +kernel
theorem dX12_init_23 : decode cX12_init 23 = .ok (.newarray .int, 2) := by decide +kernel
theorem dX12_init_25 : decode cX12_init 25 = .ok (.putfield 16, 3) := by decide +kernel
theorem dX12_init_28 : decode cX12_init 28 = .ok (.aload_n 0, 1) := by decide +kernel
theorem dX12_init_29 : decode cX12_init 29 = .ok (.bipush 7, 2) := by decide +kernel
theorem dX12_init_31 : decode cX12_init 31 = .ok (.newarray .int, 2) := by decide +kernel
theorem dX12_init_33 : decode cX12_init 33 = .ok (.putfield 19, 3) := by decide +kernel
theorem dX12_init_36 : decode cX12_init 36 = .ok (.aload_n 0, 1) := by decide +kernel
theorem dX12_init_37 : decode cX12_init 37 = .ok (.bipush 7, 2) := by decide +kernel
theorem dX12_init_39 : decode cX12_init 39 = .ok (.newarray .int, 2) := by decide +kernel
theorem dX12_init_41 : decode cX12_init 41 = .ok (.putfield 22, 3) := by decide +kernel
theorem dX12_init_44 : decode cX12_init 44 = .ok (.aload_n 0, 1) := by decide +kernel
theorem dX12_init_45 : decode cX12_init 45 = .ok (.bipush 7, 2) := by decide +kernel
theorem dX12_init_47 : decode cX12_init 47 = .ok (.newarray .int, 2) := by decide +kernel
theorem dX12_init_49 : decode cX12_init 49 = .ok (.putfield 25, 3) := by decide +kernel
theorem dX12_init_52 : decode cX12_init 52 = .ok (.aload_n 0, 1) := by decide +kernel
theorem dX12_init_53 : decode cX12_init 53 = .ok (.bipush 10, 2) := by decide +kernel
theorem dX12_init_55 : decode cX12_init 55 = .ok (.newarray .int, 2) := by decide +kernel
theorem dX12_init_57 : decode cX12_init 57 = .ok (.dup, 1) := by decide +kernel
theorem dX12_init_58 : decode cX12_init 58 = .ok (.iconst 0, 1) := by decide +kernel
theorem dX12_init_59 : decode cX12_init 59 = .ok (.bipush 12, 2) := by decide +kernel
theorem dX12_init_61 : decode cX12_init 61 = .ok (.iastore, 1) := by decide +kernel
theorem dX12_init_62 : decode cX12_init 62 = .ok (.dup, 1) := by decide +kernel
theorem dX12_init_63 : decode cX12_init 63 = .ok (.iconst 1, 1) := by decide +kernel
theorem dX12_init_64 : decode cX12_init 64 = .ok (.iconst 0, 1) := by decide +kernel
theorem dX12_init_65 : decode cX12_init 65 = .ok (.iastore, 1) := by decide +kernel
theorem dX12_init_66 : decode cX12_init 66 = .ok (.dup, 1) := by decide +kernel
theorem dX12_init_67 : decode cX12_init 67 = .ok (.iconst 2, 1) := by decide +kernel
theorem dX12_init_68 : decode cX12_init 68 = .ok (.iconst 0, 1) := by decide +kernel
theorem dX12_init_69 : decode cX12_init 69 = .ok (.iastore, 1) := by decide +kernel
theorem dX12_init_70 : decode cX12_init 70 = .ok (.dup, 1) := by decide +kernel
theorem dX12_init_71 : decode cX12_init 71 = .ok (.iconst 3, 1) := by decide +kernel
theorem dX12_init_72 : decode cX12_init 72 = .ok (.iconst 4, 1) := by decide +kernel
theorem dX12_init_73 : decode cX12_init 73 = .ok (.iastore, 1) := by decide +kernel
theorem dX12_init_74 : decode cX12_init 74 = .ok (.dup, 1) := by decide +kernel
theorem dX12_init_75 : decode cX12_init 75 = .ok (.iconst 4, 1) := by decide +kernel
theorem dX12_init_76 : decode cX12_init 76 = .ok (.iconst 1, 1) := by decide +kernel
theorem dX12_init_77 : decode cX12_init 77 = .ok (.iastore, 1) := by decide +kernel
theorem dX12_init_78 : decode cX12_init 78 = .ok (.dup, 1) := by decide +kernel
theorem dX12_init_79 : decode cX12_init 79 = .ok (.iconst 5, 1) := by decide +kernel
theorem dX12_init_80 : decode cX12_init 80 = .ok (.iconst 0, 1) := by decide +kernel
theorem dX12_init_81 : decode cX12_init 81 = .ok (.iastore, 1) := by decide +kernel
theorem dX12_init_82 : decode cX12_init 82 = .ok (.dup, 1) := by decide +kernel
theorem dX12_init_83 : decode cX12_init 83 = .ok (.bipush 6, 2) := by decide +kernel
theorem dX12_init_85 : decode cX12_init 85 = .ok (.iconst 1, 1) := by decide +kernel
theorem dX12_init_86 : decode cX12_init 86 = .ok (.iastore, 1) := by decide +kernel
theorem dX12_init_87 : decode cX12_init 87 = .ok (.dup, 1) := by decide +kernel
theorem dX12_init_88 : decode cX12_init 88 = .ok (.bipush 7, 2) := by decide +kernel
theorem dX12_init_90 : decode cX12_init 90 = .ok (.iconst 2, 1) := by decide +kernel
theorem dX12_init_91 : decode cX12_init 91 = .ok (.iastore, 1) := by decide +kernel
theorem dX12_init_92 : decode cX12_init 92 = .ok (.dup, 1) := by decide +kernel
theorem dX12_init_93 : decode cX12_init 93 = .ok (.bipush 8, 2) := by decide +kernel
theorem dX12_init_95 : decode cX12_init 95 = .ok (.iconst 3, 1) := by decide +kernel
theorem dX12_init_96 : decode cX12_init 96 = .ok (.iastore, 1) := by decide +kernel
theorem dX12_init_97 : decode cX12_init 97 = .ok (.dup, 1) := by decide +kernel
theorem dX12_init_98 : decode cX12_init 98 = .ok (.bipush 9, 2) := by decide +kernel
theorem dX12_init_100 : decode cX12_init 100 = .ok (.iconst 4, 1) := by decide +kernel
theorem dX12_init_101 : decode cX12_init 101 = .ok (.iastore, 1) := by decide +kernel
theorem dX12_init_102 : decode cX12_init 102 = .ok (.putfield 28, 3) := by decide +kernel
theorem dX12_init_105 : decode cX12_init 105 = .ok (.aload_n 0, 1) := by decide +kernel
theorem dX12_init_106 : decode cX12_init 106 = .ok (.bipush 12, 2) := by decide +kernel
theorem dX12_init_108 : decode cX12_init 108 = .ok (.anewarray 31, 3) := by decide +kernel
theorem dX12_init_111 : decode cX12_init 111 = .ok (.dup, 1) := by decide +kernel
theorem dX12_init_112 : decode cX12_init 112 = .ok (.iconst 0, 1) := by decide +kernel
theorem dX12_init_113 : decode cX12_init 113 = .ok (.iconst 5, 1) := by decide +kernel
theorem dX12_init_114 : decode cX12_init 114 = .ok (.newarray .int, 2) := by decide +kernel
theorem dX12_init_116 : decode cX12_init 116 = .ok (.dup, 1) := by decide +kernel
theorem dX12_init_117 : decode cX12_init 117 = .ok (.iconst 0, 1) := by decide +kernel
theorem dX12_init_118 : decode cX12_init 118 = .ok (.bipush 112, 2) := by decide +kernel
theorem dX12_init_120 : decode cX12_init 120 = .ok (.iastore, 1) := by decide +kernel
theorem dX12_init_121 : decode cX12_init 121 = .ok (.dup, 1) := by decide +kernel
theorem dX12_init_122 : decode cX12_init 122 = .ok (.iconst 1, 1) := by decide +kernel
theorem dX12_init_123 : decode cX12_init 123 = .ok (.bipush 108, 2) := by decide +kernel
theorem dX12_init_125 : decode cX12_init 125 = .ok (.iastore, 1) := by decide +kernel
theorem dX12_init_126 : decode cX12_init 126 = .ok (.dup, 1) := by decide +kernel
theorem dX12_init_127 : decode cX12_init 127 = .ok (.iconst 2, 1) := by decide +kernel
theorem dX12_init_128 : decode cX12_init 128 = .ok (.bipush 97, 2) := by decide +kernel
theorem dX12_init_130 : decode cX12_init 130 = .ok (.iastore, 1) := by decide +kernel
theorem dX12_init_131 : decode cX12_init 131 = .ok (.dup, 1) := by decide +kernel
theorem dX12_init_132 : decode cX12_init 132 = .ok (.iconst 3, 1) := by decide +kernel
theorem dX12_init_133 : decode cX12_init 133 = .ok (.bipush 99, 2) := by decide +kernel
theorem dX12_init_135 : decode cX12_init 135 = .ok (.iastore, 1) := by decide +kernel
theorem dX12_init_136 : decode cX12_init 136 = .ok (.dup, 1) := by decide +kernel
theorem dX12_init_137 : decode cX12_init 137 = .ok (.iconst 4, 1) := by decide +kernel
theorem dX12_init_138 : decode cX12_init 138 = .ok (.bipush 101, 2) := by decide +kernel
theorem dX12_init_140 : decode cX12_init 140 = .ok (.iastore, 1) := by decide +kernel
theorem dX12_init_141 : decode cX12_init 141 = .ok (.aastore, 1) := by decide +kernel
theorem dX12_init_142 : decode cX12_init 142 = .ok (.dup, 1) := by decide +kernel
theorem dX12_init_143 : decode cX12_init 143 = .ok (.iconst 1, 1) := by decide +kernel
theorem dX12_init_144 : decode cX12_init 144 = .ok (.iconst 4, 1) := by decide +kernel
theorem dX12_init_145 : decode cX12_init 145 = .ok (.newarray .int, 2) := by decide +kernel
theorem dX12_init_147 : decode cX12_init 147 = .ok (.dup, 1) := by decide +kernel
theorem dX12_init_148 : decode cX12_init 148 = .ok (.iconst 0, 1) := by decide +kernel
theorem dX12_init_149 : decode cX12_init 149 = .ok (.bipush 115, 2) := by decide +kernel
theorem dX12_init_151 : decode cX12_init 151 = .ok (.iastore, 1) := by decide +kernel
theorem dX12_init_152 : decode cX12_init 152 = .ok (.dup, 1) := by decide +kernel
theorem dX12_init_153 : decode cX12_init 153 = .ok (.iconst 1, 1) := by decide +kernel
theorem dX12_init_154 : decode cX12_init 154 = .ok (.bipush 105, 2) := by decide +kernel
theorem dX12_init_156 : decode cX12_init 156 = .ok (.iastore, 1) := by decide +kernel
theorem dX12_init_157 : decode cX12_init 157 = .ok (.dup, 1) := by decide +kernel
theorem dX12_init_158 : decode cX12_init 158 = .ok (.iconst 2, 1) := by decide +kernel
theorem dX12_init_159 : decode cX12_init 159 = .ok (.bipush 100, 2) := by decide +kernel
theorem dX12_init_161 : decode cX12_init 161 = .ok (.iastore, 1) := by decide +kernel
theorem dX12_init_162 : decode cX12_init 162 = .ok (.dup, 1) := by decide +kernel
theorem dX12_init_163 : decode cX12_init 163 = .ok (.iconst 3, 1) := by decide +kernel
theorem dX12_init_164 : decode cX12_init 164 = .ok (.bipush 101, 2) := by decide +kernel
theorem dX12_init_166 : decode cX12_init 166 = .ok (.iastore, 1) := by decide +kernel
theorem dX12_init_167 : decode cX12_init 167 = .ok (.aastore, 1) := by decide +kernel
theorem dX12_init_168 : decode cX12_init 168 = .ok (.dup, 1) := by decide +kernel
theorem dX12_init_169 : decode cX12_init 169 = .ok (.iconst 2, 1) := by decide +kernel
theorem dX12_init_170 : decode cX12_init 170 = .ok (.iconst 4, 1) := by decide +kernel
theorem dX12_init_171 : decode cX12_init 171 = .ok (.newarray .int, 2) := by decide +kernel
theorem dX12_init_173 : decode cX12_init 173 = .ok (.dup, 1) := by decide +kernel
theorem dX12_init_174 : decode cX12_init 174 = .ok (.iconst 0, 1) := by decide +kernel
theorem dX12_init_175 : decode cX12_init 175 = .ok (.bipush 115, 2) := by decide +kernel
theorem dX12_init_177 : decode cX12_init 177 = .ok (.iastore, 1) := by decide +kernel
theorem dX12_init_178 : decode cX12_init 178 = .ok (.dup, 1) := by decide +kernel
theorem dX12_init_179 : decode cX12_init 179 = .ok (.iconst 1, 1) := by decide +kernel
theorem dX12_init_180 : decode cX12_init 180 = .ok (.bipush 111, 2) := by decide +kernel
theorem dX12_init_182 : decode cX12_init 182 = .ok (.iastore, 1) := by decide +kernel
theorem dX12_init_183 : decode cX12_init 183 = .ok (.dup, 1) := by decide +kernel
theorem dX12_init_184 : decode cX12_init 184 = .ok (.iconst 2, 1) := by decide +kernel
theorem dX12_init_185 : decode cX12_init 185 = .ok (.bipush 114, 2) := by decide +kernel
theorem dX12_init_187 : decode cX12_init 187 = .ok (.iastore, 1) := by decide +kernel
theorem dX12_init_188 : decode cX12_init 188 = .ok (.dup, 1) := by decide +kernel
theorem dX12_init_189 : decode cX12_init 189 = .ok (.iconst 3, 1) := by decide +kernel
theorem dX12_init_190 : decode cX12_init 190 = .ok (.bipush 116, 2) := by decide +kernel
theorem dX12_init_192 : decode cX12_init 192 = .ok (.iastore, 1) := by decide +kernel
theorem dX12_init_193 : decode cX12_init 193 = .ok (.aastore, 1) := by decide +kernel
theorem dX12_init_194 : decode cX12_init 194 = .ok (.dup, 1) := by decide +kernel
theorem dX12_init_195 : decode cX12_init 195 = .ok (.iconst 3, 1) := by decide +kernel
theorem dX12_init_196 : decode cX12_init 196 = .ok (.iconst 4, 1) := by decide +kernel
theorem dX12_init_197 : decode cX12_init 197 = .ok (.newarray .int, 2) := by decide +kernel
theorem dX12_init_199 : decode cX12_init 199 = .ok (.dup, 1) := by decide +kernel
theorem dX12_init_200 : decode cX12_init 200 = .ok (.iconst 0, 1) := by decide +kernel
theorem dX12_init_201 : decode cX12_init 201 = .ok (.bipush 108, 2) := by decide +kernel
theorem dX12_init_203 : decode cX12_init 203 = .ok (.iastore, 1) := by decide +kernel
theorem dX12_init_204 : decode cX12_init 204 = .ok (.dup, 1) := by decide +kernel
theorem dX12_init_205 : decode cX12_init 205 = .ok (.iconst 1, 1) := by decide +kernel
theorem dX12_init_206 : decode cX12_init 206 = .ok (.bipush 97, 2) := by decide +kernel
theorem dX12_init_208 : decode cX12_init 208 = .ok (.iastore, 1) := by decide +kernel
theorem dX12_init_209 : decode cX12_init 209 = .ok (.dup, 1) := by decide +kernel
theorem dX12_init_210 : decode cX12_init 210 = .ok (.iconst 2, 1) := by decide +kernel
theorem dX12_init_211 : decode cX12_init 211 = .ok (.bipush 116, 2) := by decide +kernel
theorem dX12_init_213 : decode cX12_init 213 = .ok (.iastore, 1) := by decide +kernel
theorem dX12_init_214 : decode cX12_init 214 = .ok (.dup, 1) := by decide +kernel
theorem dX12_init_215 : decode cX12_init 215 = .ok (.iconst 3, 1) := by decide +kernel
theorem dX12_init_216 : decode cX12_init 216 = .ok (.bipush 101, 2) := by decide +kernel
theorem dX12_init_218 : decode cX12_init 218 = .ok (.iastore, 1) := by decide +kernel
theorem dX12_init_219 : decode cX12_init 219 = .ok (.aastore, 1) := by decide +kernel
theorem dX12_init_220 : decode cX12_init 220 = .ok (.dup, 1) := by decide +kernel
theorem dX12_init_221 : decode cX12_init 221 = .ok (.iconst 4, 1) := by decide +kernel
theorem dX12_init_222 : decode cX12_init 222 = .ok (.iconst 4, 1) := by decide +kernel
theorem dX12_init_223 : decode cX12_init 223 = .ok (.newarray .int, 2) := by decide +kernel
theorem dX12_init_225 : decode cX12_init 225 = .ok (.dup, 1) := by decide +kernel
theorem dX12_init_226 : decode cX12_init 226 = .ok (.iconst 0, 1) := by decide +kernel
theorem dX12_init_227 : decode cX12_init 227 = .ok (.bipush 114, 2) := by decide +kernel
theorem dX12_init_229 : decode cX12_init 229 = .ok (.iastore, 1) := by decide +kernel
theorem dX12_init_230 : decode cX12_init 230 = .ok (.dup, 1) := by decide +kernel
theorem dX12_init_231 : decode cX12_init 231 = .ok (.iconst 1, 1) := by decide +kernel
theorem dX12_init_232 : decode cX12_init 232 = .ok (.bipush 97, 2) := by decide +kernel
theorem dX12_init_234 : decode cX12_init 234 = .ok (.iastore, 1) := by decide +kernel
theorem dX12_init_235 : decode cX12_init 235 = .ok (.dup, 1) := by decide +kernel
theorem dX12_init_236 : decode cX12_init 236 = .ok (.iconst 2, 1) := by decide +kernel
theorem dX12_init_237 : decode cX12_init 237 = .ok (.bipush 105, 2) := by decide +kernel
theorem dX12_init_239 : decode cX12_init 239 = .ok (.iastore, 1) := by decide +kernel
theorem dX12_init_240 : decode cX12_init 240 = .ok (.dup, 1) := by decide +kernel
theorem dX12_init_241 : decode cX12_init 241 = .ok (.iconst 3, 1) := by decide +kernel
theorem dX12_init_242 : decode cX12_init 242 = .ok (.bipush 110, 2) := by decide +kernel
theorem dX12_init_244 : decode cX12_init 244 = .ok (.iastore, 1) := by decide +kernel
theorem dX12_init_245 : decode cX12_init 245 = .ok (.aastore, 1) := by decide +kernel
theorem dX12_init_246 : decode cX12_init 246 = .ok (.dup, 1) := by decide +kernel
theorem dX12_init_247 : decode cX12_init 247 = .ok (.iconst 5, 1) := by decide +kernel
theorem dX12_init_248 : decode cX12_init 248 = .ok (.iconst 5, 1) := by decide +kernel
theorem dX12_init_249 : decode cX12_init 249 = .ok (.newarray .int, 2) := by decide +kernel
theorem dX12_init_251 : decode cX12_init 251 = .ok (.dup, 1) := by decide +kernel
theorem dX12_init_252 : decode cX12_init 252 = .ok (.iconst 0, 1) := by decide +kernel
theorem dX12_init_253 : decode cX12_init 253 = .ok (.bipush 104, 2) := by decide +kernel
theorem dX12_init_255 : decode cX12_init 255 = .ok (.iastore, 1) := by decide +kernel
theorem dX12_init_256 : decode cX12_init 256 = .ok (.dup, 1) := by decide +kernel
theorem dX12_init_257 : decode cX12_init 257 = .ok (.iconst 1, 1) := by decide +kernel
theorem dX12_init_258 : decode cX12_init 258 = .ok (.bipush 111, 2) := by decide +kernel
theorem dX12_init_260 : decode cX12_init 260 = .ok (.iastore, 1) := by decide +kernel
theorem dX12_init_261 : decode cX12_init 261 = .ok (.dup, 1) := by decide +kernel
theorem dX12_init_262 : decode cX12_init 262 = .ok (.iconst 2, 1) := by decide +kernel
theorem dX12_init_263 : decode cX12_init 263 = .ok (.bipush 117, 2) := by decide +kernel
theorem dX12_init_265 : decode cX12_init 265 = .ok (.iastore, 1) := by decide +kernel
theorem dX12_init_266 : decode cX12_init 266 = .ok (.dup, 1) := by decide +kernel
theorem dX12_init_267 : decode cX12_init 267 = .ok (.iconst 3, 1) := by decide +kernel
theorem dX12_init_268 : decode cX12_init 268 = .ok (.bipush 115, 2) := by decide +kernel
theorem dX12_init_270 : decode cX12_init 270 = .ok (.iastore, 1) := by decide +kernel
theorem dX12_init_271 : decode cX12_init 271 = .ok (.dup, 1) := by decide +kernel
theorem dX12_init_272 : decode cX12_init 272 = .ok (.iconst 4, 1) := by decide +kernel
theorem dX12_init_273 : decode cX12_init 273 = .ok (.bipush 101, 2) := by decide +kernel
theorem dX12_init_275 : decode cX12_init 275 = .ok (.iastore, 1) := by decide +kernel
theorem dX12_init_276 : decode cX12_init 276 = .ok (.aastore, 1) := by decide +kernel
theorem dX12_init_277 : decode cX12_init 277 = .ok (.dup, 1) := by decide +kernel
theorem dX12_init_278 : decode cX12_init 278 = .ok (.bipush 6, 2) := by decide +kernel
theorem dX12_init_280 : decode cX12_init 280 = .ok (.iconst 2, 1) := by decide +kernel
theorem dX12_init_281 : decode cX12_init 281 = .ok (.newarray .int, 2) := by decide +kernel
theorem dX12_init_283 : decode cX12_init 283 = .ok (.dup, 1) := by decide +kernel
theorem dX12_init_284 : decode cX12_init 284 = .ok (.iconst 0, 1) := by decide +kernel
theorem dX12_init_285 : decode cX12_init 285 = .ok (.bipush 98, 2) := by decide +kernel
theorem dX12_init_287 : decode cX12_init 287 = .ok (.iastore, 1) := by decide +kernel
theorem dX12_init_288 : decode cX12_init 288 = .ok (.dup, 1) := by decide +kernel
theorem dX12_init_289 : decode cX12_init 289 = .ok (.iconst 1, 1) := by decide +kernel
theorem dX12_init_290 : decode cX12_init 290 = .ok (.bipush 121, 2) := by decide +kernel
theorem dX12_init_292 : decode cX12_init 292 = .ok (.iastore, 1) := by decide +kernel
theorem dX12_init_293 : decode cX12_init 293 = .ok (.aastore, 1) := by decide +kernel
theorem dX12_init_294 : decode cX12_init 294 = .ok (.dup, 1) := by decide +kernel
theorem dX12_init_295 : decode cX12_init 295 = .ok (.bipush 7, 2) := by decide +kernel
theorem dX12_init_297 : decode cX12_init 297 = .ok (.iconst 5, 1) := by decide +kernel
theorem dX12_init_298 : decode cX12_init 298 = .ok (.newarray .int, 2) := by decide +kernel
theorem dX12_init_300 : decode cX12_init 300 = .ok (.dup, 1) := by decide +kernel
theorem dX12_init_301 : decode cX12_init 301 = .ok (.iconst 0, 1) := by decide +kernel
theorem dX12_init_302 : decode cX12_init 302 = .ok (.bipush 114, 2) := by decide +kernel
theorem dX12_init_304 : decode cX12_init 304 = .ok (.iastore, 1) := by decide +kernel
theorem dX12_init_305 : decode cX12_init 305 = .ok (.dup, 1) := by decide +kernel
theorem dX12_init_306 : decode cX12_init 306 = .ok (.iconst 1, 1) := by decide +kernel
theorem dX12_init_307 : decode cX12_init 307 = .ok (.bipush 105, 2) := by decide +kernel
theorem dX12_init_309 : decode cX12_init 309 = .ok (.iastore, 1) := by decide +kernel
theorem dX12_init_310 : decode cX12_init 310 = .ok (.dup, 1) := by decide +kernel
theorem dX12_init_311 : decode cX12_init 311 = .ok (.iconst 2, 1) := by decide +kernel
theorem dX12_init_312 : decode cX12_init 312 = .ok (.bipush 110, 2) := by decide +kernel
theorem dX12_init_314 : decode cX12_init 314 = .ok (.iastore, 1) := by decide +kernel
theorem dX12_init_315 : decode cX12_init 315 = .ok (.dup, 1) := by decide +kernel
theorem dX12_init_316 : decode cX12_init 316 = .ok (.iconst 3, 1) := by decide +kernel
theorem dX12_init_317 : decode cX12_init 317 = .ok (.bipush 103, 2) := by decide +kernel
theorem dX12_init_319 : decode cX12_init 319 = .ok (.iastore, 1) := by decide +kernel
theorem dX12_init_320 : decode cX12_init 320 = .ok (.dup, 1) := by decide +kernel
theorem dX12_init_321 : decode cX12_init 321 = .ok (.iconst 4, 1) := by decide +kernel
theorem dX12_init_322 : decode cX12_init 322 = .ok (.bipush 115, 2) := by decide +kernel
theorem dX12_init_324 : decode cX12_init 324 = .ok (.iastore, 1) := by decide +kernel
theorem dX12_init_325 : decode cX12_init 325 = .ok (.aastore, 1) := by decide +kernel
theorem dX12_init_326 : decode cX12_init 326 = .ok (.dup, 1) := by decide +kernel
theorem dX12_init_327 : decode cX12_init 327 = .ok (.bipush 8, 2) := by decide +kernel
theorem dX12_init_329 : decode cX12_init 329 = .ok (.iconst 4, 1) := by decide +kernel
theorem dX12_init_330 : decode cX12_init 330 = .ok (.newarray .int, 2) := by decide +kernel
theorem dX12_init_332 : decode cX12_init 332 = .ok (.dup, 1) := by decide +kernel
theorem dX12_init_333 : decode cX12_init 333 = .ok (.iconst 0, 1) := by decide +kernel
theorem dX12_init_334 : decode cX12_init 334 = .ok (.bipush 116, 2) := by decide +kernel
theorem dX12_init_336 : decode cX12_init 336 = .ok (.iastore, 1) := by decide +kernel
theorem dX12_init_337 : decode cX12_init 337 = .ok (.dup, 1) := by decide +kernel
theorem dX12_init_338 : decode cX12_init 338 = .ok (.iconst 1, 1) := by decide +kernel
theorem dX12_init_339 : decode cX12_init 339 = .ok (.bipush 105, 2) := by decide +kernel
theorem dX12_init_341 : decode cX12_init 341 = .ok (.iastore, 1) := by decide +kernel
theorem dX12_init_342 : decode cX12_init 342 = .ok (.dup, 1) := by decide +kernel
theorem dX12_init_343 : decode cX12_init 343 = .ok (.iconst 2, 1) := by decide +kernel
theorem dX12_init_344 : decode cX12_init 344 = .ok (.bipush 112, 2) := by decide +kernel
theorem dX12_init_346 : decode cX12_init 346 = .ok (.iastore, 1) := by decide +kernel
theorem dX12_init_347 : decode cX12_init 347 = .ok (.dup, 1) := by decide +kernel
theorem dX12_init_348 : decode cX12_init 348 = .ok (.iconst 3, 1) := by decide +kernel
theorem dX12_init_349 : decode cX12_init 349 = .ok (.bipush 115, 2) := by decide +kernel
theorem dX12_init_351 : decode cX12_init 351 = .ok (.iastore, 1) := by decide +kernel
theorem dX12_init_352 : decode cX12_init 352 = .ok (.aastore, 1) := by decide +kernel
theorem dX12_init_353 : decode cX12_init 353 = .ok (.dup, 1) := by decide +kernel
theorem dX12_init_354 : decode cX12_init 354 = .ok (.bipush 9, 2) := by decide +kernel
theorem dX12_init_356 : decode cX12_init 356 = .ok (.iconst 2, 1) := by decide +kernel
theorem dX12_init_357 : decode cX12_init 357 = .ok (.newarray .int, 2) := by decide +kernel
theorem dX12_init_359 : decode cX12_init 359 = .ok (.dup, 1) := by decide +kernel
theorem dX12_init_360 : decode cX12_init 360 = .ok (.iconst 0, 1) := by decide +kernel
theorem dX12_init_361 : decode cX12_init 361 = .ok (.bipush 111, 2) := by decide +kernel
theorem dX12_init_363 : decode cX12_init 363 = .ok (.iastore, 1) := by decide +kernel
theorem dX12_init_364 : decode cX12_init 364 = .ok (.dup, 1) := by decide +kernel
theorem dX12_init_365 : decode cX12_init 365 = .ok (.iconst 1, 1) := by decide +kernel
theorem dX12_init_366 : decode cX12_init 366 = .ok (.bipush 114, 2) := by decide +kernel
theorem dX12_init_368 : decode cX12_init 368 = .ok (.iastore, 1) := by decide +kernel
theorem dX12_init_369 : decode cX12_init 369 = .ok (.aastore, 1) := by decide +kernel
theorem dX12_init_370 : decode cX12_init 370 = .ok (.dup, 1) := by decide +kernel
theorem dX12_init_371 : decode cX12_init 371 = .ok (.bipush 10, 2) := by decide +kernel
theorem dX12_init_373 : decode cX12_init 373 = .ok (.iconst 3, 1) := by decide +kernel
theorem dX12_init_374 : decode cX12_init 374 = .ok (.newarray .int, 2) := by decide +kernel
theorem dX12_init_376 : decode cX12_init 376 = .ok (.dup, 1) := by decide +kernel
theorem dX12_init_377 : decode cX12_init 377 = .ok (.iconst 0, 1) := by decide +kernel
theorem dX12_init_378 : decode cX12_init 378 = .ok (.bipush 97, 2) := by decide +kernel
theorem dX12_init_380 : decode cX12_init 380 = .ok (.iastore, 1) := by decide +kernel
theorem dX12_init_381 : decode cX12_init 381 = .ok (.dup, 1) := by decide +kernel
theorem dX12_init_382 : decode cX12_init 382 = .ok (.iconst 1, 1) := by decide +kernel
theorem dX12_init_383 : decode cX12_init 383 = .ok (.bipush 110, 2) := by decide +kernel
theorem dX12_init_385 : decode cX12_init 385 = .ok (.iastore, 1) := by decide +kernel
theorem dX12_init_386 : decode cX12_init 386 = .ok (.dup, 1) := by decide +kernel
theorem dX12_init_387 : decode cX12_init 387 = .ok (.iconst 2, 1) := by decide +kernel
theorem dX12_init_388 : decode cX12_init 388 = .ok (.bipush 100, 2) := by decide +kernel
theorem dX12_init_390 : decode cX12_init 390 = .ok (.iastore, 1) := by decide +kernel
theorem dX12_init_391 : decode cX12_init 391 = .ok (.aastore, 1) := by decide +kernel
theorem dX12_init_392 : decode cX12_init 392 = .ok (.dup, 1) := by decide +kernel
theorem dX12_init_393 : decode cX12_init 393 = .ok (.bipush 11, 2) := by decide +kernel
theorem dX12_init_395 : decode cX12_init 395 = .ok (.iconst 3, 1) := by decide +kernel
theorem dX12_init_396 : decode cX12_init 396 = .ok (.newarray .int, 2) := by decide +kernel
theorem dX12_init_398 : decode cX12_init 398 = .ok (.dup, 1) := by decide +kernel
theorem dX12_init_399 : decode cX12_init 399 = .ok (.iconst 0, 1) := by decide +kernel
theorem dX12_init_400 : decode cX12_init 400 = .ok (.bipush 110, 2) := by decide +kernel
theorem dX12_init_402 : decode cX12_init 402 = .ok (.iastore, 1) := by decide +kernel
theorem dX12_init_403 : decode cX12_init 403 = .ok (.dup, 1) := by decide +kernel
theorem dX12_init_404 : decode cX12_init 404 = .ok (.iconst 1, 1) := by decide +kernel
theorem dX12_init_405 : decode cX12_init 405 = .ok (.bipush 111, 2) := by decide +kernel
theorem dX12_init_407 : decode cX12_init 407 = .ok (.iastore, 1) := by decide +kernel
theorem dX12_init_408 : decode cX12_init 408 = .ok (.dup, 1) := by decide +kernel
theorem dX12_init_409 : decode cX12_init 409 = .ok (.iconst 2, 1) := by decide +kernel
theorem dX12_init_410 : decode cX12_init 410 = .ok (.bipush 116, 2) := by decide +kernel
theorem dX12_init_412 : decode cX12_init 412 = .ok (.iastore, 1) := by decide +kernel
theorem dX12_init_413 : decode cX12_init 413 = .ok (.aastore, 1) := by decide +kernel
theorem dX12_init_414 : decode cX12_init 414 = .ok (.putfield 32, 3) := by decide +kernel
theorem dX12_init_417 : decode cX12_init 417 = .ok (.aload_n 0, 1) := by decide +kernel
theorem dX12_init_418 : decode cX12_init 418 = .ok (.sipush 160, 3) := by decide +kernel
theorem dX12_init_421 : decode cX12_init 421 = .ok (.newarray .int, 2) := by decide +kernel
theorem dX12_init_423 : decode cX12_init 423 = .ok (.putfield 36, 3) := by decide +kernel
theorem dX12_init_426 : decode cX12_init 426 = .ok (.aload_n 0, 1) := by decide +kernel
theorem dX12_init_427 : decode cX12_init 427 = .ok (.sipush 3060, 3) := by decide +kernel
theorem dX12_init_430 : decode cX12_init 430 = .ok (.newarray .int, 2) := by decide +kernel
theorem dX12_init_432 : decode cX12_init 432 = .ok (.putfield 39, 3) := by decide +kernel
theorem dX12_init_435 : decode cX12_init 435 = .ok (.aload_n 0, 1) := by decide +kernel
theorem dX12_init_436 : decode cX12_init 436 = .ok (.bipush 18, 2) := by decide +kernel
theorem dX12_init_438 : decode cX12_init 438 = .ok (.newarray .int, 2) := by decide +kernel
theorem dX12_init_440 : decode cX12_init 440 = .ok (.putfield 42, 3) := by decide +kernel
theorem dX12_init_443 : decode cX12_init 443 = .ok (.aload_n 0, 1) := by decide +kernel
theorem dX12_init_444 : decode cX12_init 444 = .ok (.sipush 200, 3) := by decide +kernel
theorem dX12_init_447 : decode cX12_init 447 = .ok (.newarray .int, 2) := by decide +kernel
theorem dX12_init_449 : decode cX12_init 449 = .ok (.putfield 45, 3) := by decide +kernel
theorem dX12_init_452 : decode cX12_init 452 = .ok (.aload_n 0, 1) := by decide +kernel
theorem dX12_init_453 : decode cX12_init 453 = .ok (.sipush 200, 3) := by decide +kernel
theorem dX12_init_456 : decode cX12_init 456 = .ok (.newarray .int, 2) := by decide +kernel
theorem dX12_init_458 : decode cX12_init 458 = .ok (.putfield 48, 3) := by decide +kernel
theorem dX12_init_461 : decode cX12_init 461 = .ok (.aload_n 0, 1) := by decide +kernel
theorem dX12_init_462 : decode cX12_init 462 = .ok (.iconst 1, 1) := by decide +kernel
theorem dX12_init_463 : decode cX12_init 463 = .ok (.putfield 51, 3) := by decide +kernel
theorem dX12_init_466 : decode cX12_init 466 = .ok (.aload_n 0, 1) := by decide +kernel
theorem dX12_init_467 : decode cX12_init 467 = .ok (.bipush 7, 2) := by decide +kernel
theorem dX12_init_469 : decode cX12_init 469 = .ok (.newarray .int, 2) := by decide +kernel
theorem dX12_init_471 : decode cX12_init 471 = .ok (.putfield 55, 3) := by decide +kernel
theorem dX12_init_474 : decode cX12_init 474 = .ok (.aload_n 0, 1) := by decide +kernel
theorem dX12_init_475 : decode cX12_init 475 = .ok (.bipush 7, 2) := by decide +kernel
theorem dX12_init_477 : decode cX12_init 477 = .ok (.newarray .int, 2) := by decide +kernel
theorem dX12_init_479 : decode cX12_init 479 = .ok (.putfield 58, 3) := by decide +kernel
theorem dX12_init_482 : decode cX12_init 482 = .ok (.aload_n 0, 1) := by decide +kernel
theorem dX12_init_483 : decode cX12_init 483 = .ok (.bipush 7, 2) := by decide +kernel
theorem dX12_init_485 : decode cX12_init 485 = .ok (.newarray .int, 2) := by decide +kernel
theorem dX12_init_487 : decode cX12_init 487 = .ok (.putfield 61, 3) := by decide +kernel
theorem dX12_init_490 : decode cX12_init 490 = .ok (.aload_n 0, 1) := by decide +kernel
theorem dX12_init_491 : decode cX12_init 491 = .ok (.bipush 60, 2) := by decide +kernel
theorem dX12_init_493 : decode cX12_init 493 = .ok (.newarray .int, 2) := by decide +kernel
theorem dX12_init_495 : decode cX12_init 495 = .ok (.putfield 64, 3) := by decide +kernel
theorem dX12_init_498 : decode cX12_init 498 = .ok (.aload_n 0, 1) := by decide +kernel
theorem dX12_init_499 : decode cX12_init 499 = .ok (.iconst 4, 1) := by decide +kernel
theorem dX12_init_500 : decode cX12_init 500 = .ok (.newarray .int, 2) := by decide +kernel
theorem dX12_init_502 : decode cX12_init 502 = .ok (.putfield 67, 3) := by decide +kernel
theorem dX12_init_505 : decode cX12_init 505 = .ok (.aload_n 0, 1) := by decide +kernel
theorem dX12_init_506 : decode cX12_init 506 = .ok (.iconst 4, 1) := by decide +kernel
theorem dX12_init_507 : decode cX12_init 507 = .ok (.newarray .int, 2) := by decide +kernel
theorem dX12_init_509 : decode cX12_init 509 = .ok (.putfield 70, 3) := by decide +kernel
theorem dX12_init_512 : decode cX12_init 512 = .ok (.aload_n 0, 1) := by decide +kernel
theorem dX12_init_513 : decode cX12_init 513 = .ok (.sipush 160, 3) := by decide +kernel
theorem dX12_init_516 : decode cX12_init 516 = .ok (.newarray .int, 2) := by decide +kernel
theorem dX12_init_518 : decode cX12_init 518 = .ok (.putfield 73, 3) := by decide +kernel
theorem dX12_init_521 : decode cX12_init 521 = .ok (.aload_n 0, 1) := by decide +kernel
theorem dX12_init_522 : decode cX12_init 522 = .ok (.bipush 40, 2) := by decide +kernel
theorem dX12_init_524 : decode cX12_init 524 = .ok (.newarray .int, 2) := by decide +kernel
theorem dX12_init_526 : decode cX12_init 526 = .ok (.putfield 76, 3) := by decide +kernel
theorem dX12_init_529 : decode cX12_init 529 = .ok (.iconst 0, 1) := by decide +kernel
theorem dX12_init_530 : decode cX12_init 530 = .ok (.istore_n 1, 1) := by decide +kernel
theorem dX12_init_531 : decode cX12_init 531 = .ok (.iload_n 1, 1) := by decide +kernel
theorem dX12_init_532 : decode cX12_init 532 = .ok (.iconst 4, 1) := by decide +kernel
theorem dX12_init_533 : decode cX12_init 533 = .ok (.if_icmp .ge 16, 3) := by decide +kernel
theorem dX12_init_536 : decode cX12_init 536 = .ok (.aload_n 0, 1) := by decide +kernel
theorem dX12_init_537 : decode cX12_init 537 = .ok (.getfield 67, 3) := by decide +kernel
theorem dX12_init_540 : decode cX12_init 540 = .ok (.iload_n 1, 1) := by decide +kernel
theorem dX12_init_541 : decode cX12_init 541 = .ok (.iconst (-1), 1) := by decide +kernel
theorem dX12_init_542 : decode cX12_init 542 = .ok (.iastore, 1) := by decide +kernel
theorem dX12_init_543 : decode cX12_init 543 = .ok (.iinc 1 1, 3) := by decide +kernel
theorem dX12_init_546 : decode cX12_init 546 = .ok (.goto (-15), 3) := by decide +kernel
theorem dX12_init_549 : decode cX12_init 549 = .ok (.aload_n 0, 1) := by decide +kernel
theorem dX12_init_550 : decode cX12_init 550 = .ok (.invokevirtual 79, 3) := by decide +kernel
theorem dX12_init_553 : decode cX12_init 553 = .ok (.return_, 1) := by decide +kernel
theorem dX12_isIn_0 : decode cX12_isIn 0 = .ok (.iload_n 0, 1) := by decide +kernel
theorem dX12_isIn_1 : decode cX12_isIn 1 = .ok (.iload_n 1, 1) := by decide +kernel
theorem dX12_isIn_2 : decode cX12_isIn 2 = .ok (.if_icmp .lt 12, 3) := by decide +kernel
theorem dX12_isIn_5 : decode cX12_isIn 5 = .ok (.iload_n 0, 1) := by decide +kernel
theorem dX12_isIn_6 : decode cX12_isIn 6 = .ok (.iload_n 2, 1) := by decide +kernel
theorem dX12_isIn_7 : decode cX12_isIn 7 = .ok (.if_icmp .gt 7, 3) := by decide +kernel
theorem dX12_isIn_10 : decode cX12_isIn 10 = .ok (.iconst 1, 1) := by decide +kernel
theorem dX12_isIn_11 : decode cX12_isIn 11 = .ok (.goto 4, 3) := by decide +kernel
theorem dX12_isIn_14 : decode cX12_isIn 14 = .ok (.iconst 0, 1) := by decide +kernel
theorem dX12_isIn_15 : decode cX12_isIn 15 = .ok (.ireturn, 1) := by decide +kernel
theorem dX12_isHouse_0 : decode cX12_isHouse 0 = .ok (.iload_n 1, 1) := by decide +kernel
theorem dX12_isHouse_1 : decode cX12_isHouse 1 = .ok (.ifCond .lt 15, 3) := by decide +kernel
theorem dX12_isHouse_4 : decode cX12_isHouse 4 = .ok (.iload_n 1, 1) := by decide +kernel
theorem dX12_isHouse_5 : decode cX12_isHouse 5 = .ok (.aload_n 0, 1) := by decide +kernel
theorem dX12_isHouse_6 : decode cX12_isHouse 6 = .ok (.getfield 82, 3) := by decide +kernel
theorem dX12_isHouse_9 : decode cX12_isHouse 9 = .ok (.if_icmp .ge 7, 3) := by decide +kernel
theorem dX12_isHouse_12 : decode cX12_isHouse 12 = .ok (.iconst 1, 1) := by decide +kernel
theorem dX12_isHouse_13 : decode cX12_isHouse 13 = .ok (.goto 4, 3) := by decide +kernel
theorem dX12_isHouse_16 : decode cX12_isHouse 16 = .ok (.iconst 0, 1) := by decide +kernel
theorem dX12_isHouse_17 : decode cX12_isHouse 17 = .ok (.ireturn, 1) := by decide +kernel
theorem dX12_writes_0 : decode cX12_writes 0 = .ok (.aload_n 0, 1) := by decide +kernel
theorem dX12_writes_1 : decode cX12_writes 1 = .ok (.getfield 39, 3) := by decide +kernel
theorem dX12_writes_4 : decode cX12_writes 4 = .ok (.sipush 170, 3) := by decide +kernel
theorem dX12_writes_7 : decode cX12_writes 7 = .ok (.aload_n 0, 1) := by decide +kernel
theorem dX12_writes_8 : decode cX12_writes 8 = .ok (.getfield 85, 3) := by decide +kernel
theorem dX12_writes_11 : decode cX12_writes 11 = .ok (.imul, 1) := by decide +kernel
theorem dX12_writes_12 : decode cX12_writes 12 = .ok (.aload_n 0, 1) := by decide +kernel
theorem dX12_writes_13 : decode cX12_writes 13 = .ok (.getfield 42, 3) := by decide +kernel
theorem dX12_writes_16 : decode cX12_writes 16 = .ok (.aload_n 0, 1) := by decide +kernel
theorem dX12_writes_17 : decode cX12_writes 17 = .ok (.getfield 85, 3) := by decide +kernel
theorem dX12_writes_20 : decode cX12_writes 20 = .ok (.iaload, 1) := by decide +kernel
theorem dX12_writes_21 : decode cX12_writes 21 = .ok (.iadd, 1) := by decide +kernel
theorem dX12_writes_22 : decode cX12_writes 22 = .ok (.iload_n 1, 1) := by decide +kernel
theorem dX12_writes_23 : decode cX12_writes 23 = .ok (.iastore, 1) := by decide +kernel
theorem dX12_writes_24 : decode cX12_writes 24 = .ok (.aload_n 0, 1) := by decide +kernel
theorem dX12_writes_25 : decode cX12_writes 25 = .ok (.getfield 42, 3) := by decide +kernel
theorem dX12_writes_28 : decode cX12_writes 28 = .ok (.aload_n 0, 1) := by decide +kernel
theorem dX12_writes_29 : decode cX12_writes 29 = .ok (.getfield 85, 3) := by decide +kernel
theorem dX12_writes_32 : decode cX12_writes 32 = .ok (.dup2, 1) := by decide +kernel
theorem dX12_writes_33 : decode cX12_writes 33 = .ok (.iaload, 1) := by decide +kernel
theorem dX12_writes_34 : decode cX12_writes 34 = .ok (.iconst 1, 1) := by decide +kernel
theorem dX12_writes_35 : decode cX12_writes 35 = .ok (.iadd, 1) := by decide +kernel
theorem dX12_writes_36 : decode cX12_writes 36 = .ok (.iastore, 1) := by decide +kernel
theorem dX12_writes_37 : decode cX12_writes 37 = .ok (.return_, 1) := by decide +kernel
theorem dX12_firstRule_0 : decode cX12_firstRule 0 = .ok (.aload_n 0, 1) := by decide +kernel
theorem dX12_firstRule_1 : decode cX12_firstRule 1 = .ok (.iconst 0, 1) := by decide +kernel
theorem dX12_firstRule_2 : decode cX12_firstRule 2 = .ok (.putfield 85, 3) := by decide +kernel
theorem dX12_firstRule_5 : decode cX12_firstRule 5 = .ok (.aload_n 0, 1) := by decide +kernel
theorem dX12_firstRule_6 : decode cX12_firstRule 6 = .ok (.bipush 30, 2) := by decide +kernel
theorem dX12_firstRule_8 : decode cX12_firstRule 8 = .ok (.invokevirtual 88, 3) := by decide +kernel
theorem dX12_firstRule_11 : decode cX12_firstRule 11 = .ok (.aload_n 0, 1) := by decide +kernel
theorem dX12_firstRule_12 : decode cX12_firstRule 12 = .ok (.sipush 20005, 3) := by decide +kernel
theorem dX12_firstRule_15 : decode cX12_firstRule 15 = .ok (.invokevirtual 88, 3) := by decide +kernel
theorem dX12_firstRule_18 : decode cX12_firstRule 18 = .ok (.aload_n 0, 1) := by decide +kernel
theorem dX12_firstRule_19 : decode cX12_firstRule 19 = .ok (.iconst 5, 1) := by decide +kernel
theorem dX12_firstRule_20 : decode cX12_firstRule 20 = .ok (.invokevirtual 88, 3) := by decide +kernel
theorem dX12_firstRule_23 : decode cX12_firstRule 23 = .ok (.aload_n 0, 1) := by decide +kernel
theorem dX12_firstRule_24 : decode cX12_firstRule 24 = .ok (.sipush 30003, 3) := by decide +kernel
theorem dX12_firstRule_27 : decode cX12_firstRule 27 = .ok (.invokevirtual 88, 3) := by decide +kernel
theorem dX12_firstRule_30 : decode cX12_firstRule 30 = .ok (.aload_n 0, 1) := by decide +kernel
theorem dX12_firstRule_31 : decode cX12_firstRule 31 = .ok (.sipush 30001, 3) := by decide +kernel
theorem dX12_firstRule_34 : decode cX12_firstRule 34 = .ok (.invokevirtual 88, 3) := by decide +kernel
theorem dX12_firstRule_37 : decode cX12_firstRule 37 = .ok (.aload_n 0, 1) := by decide +kernel
theorem dX12_firstRule_38 : decode cX12_firstRule 38 = .ok (.iconst 1, 1) := by decide +kernel
theorem dX12_firstRule_39 : decode cX12_firstRule 39 = .ok (.putfield 85, 3) := by decide +kernel
theorem dX12_firstRule_42 : decode cX12_firstRule 42 = .ok (.aload_n 0, 1) := by decide +kernel
theorem dX12_firstRule_43 : decode cX12_firstRule 43 = .ok (.iconst 5, 1) := by decide +kernel
theorem dX12_firstRule_44 : decode cX12_firstRule 44 = .ok (.invokevirtual 88, 3) := by decide +kernel
theorem dX12_firstRule_47 : decode cX12_firstRule 47 = .ok (.aload_n 0, 1) := by decide +kernel
theorem dX12_firstRule_48 : decode cX12_firstRule 48 = .ok (.sipush 20003, 3) := by decide +kernel
theorem dX12_firstRule_51 : decode cX12_firstRule 51 = .ok (.invokevirtual 88, 3) := by decide +kernel
theorem dX12_firstRule_54 : decode cX12_firstRule 54 = .ok (.aload_n 0, 1) := by decide +kernel
theorem dX12_firstRule_55 : decode cX12_firstRule 55 = .ok (.sipush 30004, 3) := by decide +kernel
theorem dX12_firstRule_58 : decode cX12_firstRule 58 = .ok (.invokevirtual 88, 3) := by decide +kernel
theorem dX12_firstRule_61 : decode cX12_firstRule 61 = .ok (.aload_n 0, 1) := by decide +kernel
theorem dX12_firstRule_62 : decode cX12_firstRule 62 = .ok (.iconst 2, 1) := by decide +kernel
theorem dX12_firstRule_63 : decode cX12_firstRule 63 = .ok (.putfield 85, 3) := by decide +kernel
theorem dX12_firstRule_66 : decode cX12_firstRule 66 = .ok (.aload_n 0, 1) := by decide +kernel
theorem dX12_firstRule_67 : decode cX12_firstRule 67 = .ok (.bipush 20, 2) := by decide +kernel
theorem dX12_firstRule_69 : decode cX12_firstRule 69 = .ok (.invokevirtual 88, 3) := by decide +kernel
theorem dX12_firstRule_72 : decode cX12_firstRule 72 = .ok (.aload_n 0, 1) := by decide +kernel
theorem dX12_firstRule_73 : decode cX12_firstRule 73 = .ok (.sipush 20003, 3) := by decide +kernel
theorem dX12_firstRule_76 : decode cX12_firstRule 76 = .ok (.invokevirtual 88, 3) := by decide +kernel
theorem dX12_firstRule_79 : decode cX12_firstRule 79 = .ok (.aload_n 0, 1) := by decide +kernel
theorem dX12_firstRule_80 : decode cX12_firstRule 80 = .ok (.sipush 30002, 3) := by decide +kernel
theorem dX12_firstRule_83 : decode cX12_firstRule 83 = .ok (.invokevirtual 88, 3) := by decide +kernel
theorem dX12_firstRule_86 : decode cX12_firstRule 86 = .ok (.return_, 1) := by decide +kernel
theorem dX12_feed_0 : decode cX12_feed 0 = .ok (.iload_n 1, 1) := by decide +kernel
theorem dX12_feed_1 : decode cX12_feed 1 = .ok (.iconst 0, 1) := by decide +kernel
theorem dX12_feed_2 : decode cX12_feed 2 = .ok (.sipush 255, 3) := by decide +kernel
theorem dX12_feed_5 : decode cX12_feed 5 = .ok (.invokestatic 92, 3) := by decide +kernel
theorem dX12_feed_8 : decode cX12_feed 8 = .ok (.ifCond .ne 6, 3) := by decide +kernel
theorem dX12_feed_11 : decode cX12_feed 11 = .ok (.bipush (-2), 2) := by decide +kernel
theorem dX12_feed_13 : decode cX12_feed 13 = .ok (.ireturn, 1) := by decide +kernel
theorem dX12_feed_14 : decode cX12_feed 14 = .ok (.aload_n 0, 1) := by decide +kernel
theorem dX12_feed_15 : decode cX12_feed 15 = .ok (.getfield 96, 3) := by decide +kernel
theorem dX12_feed_18 : decode cX12_feed 18 = .ok (.sipush 160, 3) := by decide +kernel
theorem dX12_feed_21 : decode cX12_feed 21 = .ok (.if_icmp .ne 6, 3) := by decide +kernel
theorem dX12_feed_24 : decode cX12_feed 24 = .ok (.bipush (-4), 2) := by decide +kernel
theorem dX12_feed_26 : decode cX12_feed 26 = .ok (.ireturn, 1) := by decide +kernel
theorem dX12_feed_27 : decode cX12_feed 27 = .ok (.aload_n 0, 1) := by decide +kernel
theorem dX12_feed_28 : decode cX12_feed 28 = .ok (.getfield 36, 3) := by decide +kernel
theorem dX12_feed_31 : decode cX12_feed 31 = .ok (.aload_n 0, 1) := by decide +kernel
theorem dX12_feed_32 : decode cX12_feed 32 = .ok (.getfield 96, 3) := by decide +kernel
theorem dX12_feed_35 : decode cX12_feed 35 = .ok (.iload_n 1, 1) := by decide +kernel
theorem dX12_feed_36 : decode cX12_feed 36 = .ok (.iastore, 1) := by decide +kernel
theorem dX12_feed_37 : decode cX12_feed 37 = .ok (.aload_n 0, 1) := by decide +kernel
theorem dX12_feed_38 : decode cX12_feed 38 = .ok (.dup, 1) := by decide +kernel
theorem dX12_feed_39 : decode cX12_feed 39 = .ok (.getfield 96, 3) := by decide +kernel
theorem dX12_feed_42 : decode cX12_feed 42 = .ok (.iconst 1, 1) := by decide +kernel
theorem dX12_feed_43 : decode cX12_feed 43 = .ok (.iadd, 1) := by decide +kernel
theorem dX12_feed_44 : decode cX12_feed 44 = .ok (.putfield 96, 3) := by decide +kernel
theorem dX12_feed_47 : decode cX12_feed 47 = .ok (.aload_n 0, 1) := by decide +kernel
theorem dX12_feed_48 : decode cX12_feed 48 = .ok (.getfield 96, 3) := by decide +kernel
theorem dX12_feed_51 : decode cX12_feed 51 = .ok (.ireturn, 1) := by decide +kernel
theorem dX12_isAt_0 : decode cX12_isAt 0 = .ok (.aload_n 0, 1) := by decide +kernel
theorem dX12_isAt_1 : decode cX12_isAt 1 = .ok (.getfield 99, 3) := by decide +kernel
theorem dX12_isAt_4 : decode cX12_isAt 4 = .ok (.aload_n 0, 1) := by decide +kernel
theorem dX12_isAt_5 : decode cX12_isAt 5 = .ok (.getfield 96, 3) := by decide +kernel
theorem dX12_isAt_8 : decode cX12_isAt 8 = .ok (.if_icmp .ge 24, 3) := by decide +kernel
theorem dX12_isAt_11 : decode cX12_isAt 11 = .ok (.aload_n 0, 1) := by decide +kernel
theorem dX12_isAt_12 : decode cX12_isAt 12 = .ok (.getfield 36, 3) := by decide +kernel
theorem dX12_isAt_15 : decode cX12_isAt 15 = .ok (.aload_n 0, 1) := by decide +kernel
theorem dX12_isAt_16 : decode cX12_isAt 16 = .ok (.getfield 99, 3) := by decide +kernel
theorem dX12_isAt_19 : decode cX12_isAt 19 = .ok (.iaload, 1) := by decide +kernel
theorem dX12_isAt_20 : decode cX12_isAt 20 = .ok (.iload_n 1, 1) := by decide +kernel
theorem dX12_isAt_21 : decode cX12_isAt 21 = .ok (.iload_n 2, 1) := by decide +kernel
theorem dX12_isAt_22 : decode cX12_isAt 22 = .ok (.invokestatic 92, 3) := by decide +kernel
theorem dX12_isAt_25 : decode cX12_isAt 25 = .ok (.ifCond .eq 7, 3) := by decide +kernel
theorem dX12_isAt_28 : decode cX12_isAt 28 = .ok (.iconst 1, 1) := by decide +kernel
theorem dX12_isAt_29 : decode cX12_isAt 29 = .ok (.goto 4, 3) := by decide +kernel
theorem dX12_isAt_32 : decode cX12_isAt 32 = .ok (.iconst 0, 1) := by decide +kernel
theorem dX12_isAt_33 : decode cX12_isAt 33 = .ok (.ireturn, 1) := by decide +kernel
theorem dX12_isSign_0 : decode cX12_isSign 0 = .ok (.iload_n 0, 1) := by decide +kernel
theorem dX12_isSign_1 : decode cX12_isSign 1 = .ok (.bipush 40, 2) := by decide +kernel
theorem dX12_isSign_3 : decode cX12_isSign 3 = .ok (.if_icmp .eq 45, 3) := by decide +kernel
theorem dX12_isSign_6 : decode cX12_isSign 6 = .ok (.iload_n 0, 1) := by decide +kernel
theorem dX12_isSign_7 : decode cX12_isSign 7 = .ok (.bipush 41, 2) := by decide +kernel
theorem dX12_isSign_9 : decode cX12_isSign 9 = .ok (.if_icmp .eq 39, 3) := by decide +kernel
theorem dX12_isSign_12 : decode cX12_isSign 12 = .ok (.iload_n 0, 1) := by decide +kernel
theorem dX12_isSign_13 : decode cX12_isSign 13 = .ok (.bipush 59, 2) := by decide +kernel
theorem dX12_isSign_15 : decode cX12_isSign 15 = .ok (.if_icmp .eq 33, 3) := by decide +kernel
theorem dX12_isSign_18 : decode cX12_isSign 18 = .ok (.iload_n 0, 1) := by decide +kernel
theorem dX12_isSign_19 : decode cX12_isSign 19 = .ok (.bipush 43, 2) := by decide +kernel
theorem dX12_isSign_21 : decode cX12_isSign 21 = .ok (.if_icmp .eq 27, 3) := by decide +kernel
theorem dX12_isSign_24 : decode cX12_isSign 24 = .ok (.iload_n 0, 1) := by decide +kernel
theorem dX12_isSign_25 : decode cX12_isSign 25 = .ok (.bipush 45, 2) := by decide +kernel
theorem dX12_isSign_27 : decode cX12_isSign 27 = .ok (.if_icmp .eq 21, 3) := by decide +kernel
theorem dX12_isSign_30 : decode cX12_isSign 30 = .ok (.iload_n 0, 1) := by decide +kernel
theorem dX12_isSign_31 : decode cX12_isSign 31 = .ok (.bipush 42, 2) := by decide +kernel
theorem dX12_isSign_33 : decode cX12_isSign 33 = .ok (.if_icmp .eq 15, 3) := by decide +kernel
theorem dX12_isSign_36 : decode cX12_isSign 36 = .ok (.iload_n 0, 1) := by decide +kernel
theorem dX12_isSign_37 : decode cX12_isSign 37 = .ok (.bipush 60, 2) := by decide +kernel
theorem dX12_isSign_39 : decode cX12_isSign 39 = .ok (.if_icmp .eq 9, 3) := by decide +kernel
theorem dX12_isSign_42 : decode cX12_isSign 42 = .ok (.iload_n 0, 1) := by decide +kernel
theorem dX12_isSign_43 : decode cX12_isSign 43 = .ok (.bipush 61, 2) := by decide +kernel
theorem dX12_isSign_45 : decode cX12_isSign 45 = .ok (.if_icmp .ne 7, 3) := by decide +kernel
theorem dX12_isSign_48 : decode cX12_isSign 48 = .ok (.iconst 1, 1) := by decide +kernel
theorem dX12_isSign_49 : decode cX12_isSign 49 = .ok (.goto 4, 3) := by decide +kernel
theorem dX12_isSign_52 : decode cX12_isSign 52 = .ok (.iconst 0, 1) := by decide +kernel
theorem dX12_isSign_53 : decode cX12_isSign 53 = .ok (.ireturn, 1) := by decide +kernel
theorem dX12_isWord_0 : decode cX12_isWord 0 = .ok (.aload_n 0, 1) := by decide +kernel
theorem dX12_isWord_1 : decode cX12_isWord 1 = .ok (.getfield 99, 3) := by decide +kernel
theorem dX12_isWord_4 : decode cX12_isWord 4 = .ok (.aload_n 0, 1) := by decide +kernel
theorem dX12_isWord_5 : decode cX12_isWord 5 = .ok (.getfield 102, 3) := by decide +kernel
theorem dX12_isWord_8 : decode cX12_isWord 8 = .ok (.isub, 1) := by decide +kernel
theorem dX12_isWord_9 : decode cX12_isWord 9 = .ok (.aload_n 1, 1) := by decide +kernel
theorem dX12_isWord_10 : decode cX12_isWord 10 = .ok (.arraylength, 1) := by decide +kernel
theorem dX12_isWord_11 : decode cX12_isWord 11 = .ok (.if_icmp .eq 5, 3) := by decide +kernel
theorem dX12_isWord_14 : decode cX12_isWord 14 = .ok (.iconst 0, 1) := by decide +kernel
theorem dX12_isWord_15 : decode cX12_isWord 15 = .ok (.ireturn, 1) := by decide +kernel
theorem dX12_isWord_16 : decode cX12_isWord 16 = .ok (.iconst 0, 1) := by decide +kernel
theorem dX12_isWord_17 : decode cX12_isWord 17 = .ok (.istore_n 2, 1) := by decide +kernel
theorem dX12_isWord_18 : decode cX12_isWord 18 = .ok (.iload_n 2, 1) := by decide +kernel
theorem dX12_isWord_19 : decode cX12_isWord 19 = .ok (.aload_n 1, 1) := by decide +kernel
theorem dX12_isWord_20 : decode cX12_isWord 20 = .ok (.arraylength, 1) := by decide +kernel
theorem dX12_isWord_21 : decode cX12_isWord 21 = .ok (.if_icmp .ge 28, 3) := by decide +kernel
theorem dX12_isWord_24 : decode cX12_isWord 24 = .ok (.aload_n 0, 1) := by decide +kernel
theorem dX12_isWord_25 : decode cX12_isWord 25 = .ok (.getfield 36, 3) := by decide +kernel
theorem dX12_isWord_28 : decode cX12_isWord 28 = .ok (.aload_n 0, 1) := by decide +kernel
theorem dX12_isWord_29 : decode cX12_isWord 29 = .ok (.getfield 102, 3) := by decide +kernel
theorem dX12_isWord_32 : decode cX12_isWord 32 = .ok (.iload_n 2, 1) := by decide +kernel
theorem dX12_isWord_33 : decode cX12_isWord 33 = .ok (.iadd, 1) := by decide +kernel
theorem dX12_isWord_34 : decode cX12_isWord 34 = .ok (.iaload, 1) := by decide +kernel
theorem dX12_isWord_35 : decode cX12_isWord 35 = .ok (.aload_n 1, 1) := by decide +kernel
theorem dX12_isWord_36 : decode cX12_isWord 36 = .ok (.iload_n 2, 1) := by decide +kernel
theorem dX12_isWord_37 : decode cX12_isWord 37 = .ok (.iaload, 1) := by decide +kernel
theorem dX12_isWord_38 : decode cX12_isWord 38 = .ok (.if_icmp .eq 5, 3) := by decide +kernel
theorem dX12_isWord_41 : decode cX12_isWord 41 = .ok (.iconst 0, 1) := by decide +kernel
theorem dX12_isWord_42 : decode cX12_isWord 42 = .ok (.ireturn, 1) := by decide +kernel
theorem dX12_isWord_43 : decode cX12_isWord 43 = .ok (.iinc 2 1, 3) := by decide +kernel
theorem dX12_isWord_46 : decode cX12_isWord 46 = .ok (.goto (-28), 3) := by decide +kernel
theorem dX12_isWord_49 : decode cX12_isWord 49 = .ok (.iconst 1, 1) := by decide +kernel
theorem dX12_isWord_50 : decode cX12_isWord 50 = .ok (.ireturn, 1) := by decide +kernel
theorem dX12_reads_0 : decode cX12_reads 0 = .ok (.aload_n 0, 1) := by decide +kernel
theorem dX12_reads_1 : decode cX12_reads 1 = .ok (.bipush 32, 2) := by decide +kernel
theorem dX12_reads_3 : decode cX12_reads 3 = .ok (.bipush 32, 2) := by decide +kernel
theorem dX12_reads_5 : decode cX12_reads 5 = .ok (.invokevirtual 105, 3) := by decide +kernel
theorem dX12_reads_8 : decode cX12_reads 8 = .ok (.ifCond .ne 14, 3) := by decide +kernel
theorem dX12_reads_11 : decode cX12_reads 11 = .ok (.aload_n 0, 1) := by decide +kernel
theorem dX12_reads_12 : decode cX12_reads 12 = .ok (.bipush 10, 2) := by decide +kernel
theorem dX12_reads_14 : decode cX12_reads 14 = .ok (.bipush 10, 2) := by decide +kernel
theorem dX12_reads_16 : decode cX12_reads 16 = .ok (.invokevirtual 105, 3) := by decide +kernel
theorem dX12_reads_19 : decode cX12_reads 19 = .ok (.ifCond .eq 16, 3) := by decide +kernel
theorem dX12_reads_22 : decode cX12_reads 22 = .ok (.aload_n 0, 1) := by decide +kernel
theorem dX12_reads_23 : decode cX12_reads 23 = .ok (.dup, 1) := by decide +kernel
theorem dX12_reads_24 : decode cX12_reads 24 = .ok (.getfield 99, 3) := by decide +kernel
theorem dX12_reads_27 : decode cX12_reads 27 = .ok (.iconst 1, 1) := by decide +kernel
theorem dX12_reads_28 : decode cX12_reads 28 = .ok (.iadd, 1) := by decide +kernel
theorem dX12_reads_29 : decode cX12_reads 29 = .ok (.putfield 99, 3) := by decide +kernel
theorem dX12_reads_32 : decode cX12_reads 32 = .ok (.goto (-32), 3) := by decide +kernel
theorem dX12_reads_35 : decode cX12_reads 35 = .ok (.aload_n 0, 1) := by decide +kernel
theorem dX12_reads_36 : decode cX12_reads 36 = .ok (.aload_n 0, 1) := by decide +kernel
theorem dX12_reads_37 : decode cX12_reads 37 = .ok (.getfield 99, 3) := by decide +kernel
theorem dX12_reads_40 : decode cX12_reads 40 = .ok (.putfield 102, 3) := by decide +kernel
theorem dX12_reads_43 : decode cX12_reads 43 = .ok (.aload_n 0, 1) := by decide +kernel
theorem dX12_reads_44 : decode cX12_reads 44 = .ok (.bipush 104, 2) := by decide +kernel
theorem dX12_reads_46 : decode cX12_reads 46 = .ok (.putfield 109, 3) := by decide +kernel
theorem dX12_reads_49 : decode cX12_reads 49 = .ok (.aload_n 0, 1) := by decide +kernel
theorem dX12_reads_50 : decode cX12_reads 50 = .ok (.iconst 0, 1) := by decide +kernel
theorem dX12_reads_51 : decode cX12_reads 51 = .ok (.putfield 112, 3) := by decide +kernel
theorem dX12_reads_54 : decode cX12_reads 54 = .ok (.aload_n 0, 1) := by decide +kernel
theorem dX12_reads_55 : decode cX12_reads 55 = .ok (.getfield 99, 3) := by decide +kernel
theorem dX12_reads_58 : decode cX12_reads 58 = .ok (.aload_n 0, 1) := by decide +kernel
theorem dX12_reads_59 : decode cX12_reads 59 = .ok (.getfield 96, 3) := by decide +kernel
theorem dX12_reads_62 : decode cX12_reads 62 = .ok (.if_icmp .ne 12, 3) := by decide +kernel
theorem dX12_reads_65 : decode cX12_reads 65 = .ok (.aload_n 0, 1) := by decide +kernel
theorem dX12_reads_66 : decode cX12_reads 66 = .ok (.bipush 103, 2) := by decide +kernel
theorem dX12_reads_68 : decode cX12_reads 68 = .ok (.putfield 109, 3) := by decide +kernel
theorem dX12_reads_71 : decode cX12_reads 71 = .ok (.goto 232, 3) := by decide +kernel
theorem dX12_reads_74 : decode cX12_reads 74 = .ok (.aload_n 0, 1) := by decide +kernel
theorem dX12_reads_75 : decode cX12_reads 75 = .ok (.bipush 48, 2) := by decide +kernel
theorem dX12_reads_77 : decode cX12_reads 77 = .ok (.bipush 57, 2) := by decide +kernel
theorem dX12_reads_79 : decode cX12_reads 79 = .ok (.invokevirtual 105, 3) := by decide +kernel
theorem dX12_reads_82 : decode cX12_reads 82 = .ok (.ifCond .eq 95, 3) := by decide +kernel
theorem dX12_reads_85 : decode cX12_reads 85 = .ok (.aload_n 0, 1) := by decide +kernel
theorem dX12_reads_86 : decode cX12_reads 86 = .ok (.bipush 48, 2) := by decide +kernel
theorem dX12_reads_88 : decode cX12_reads 88 = .ok (.bipush 57, 2) := by decide +kernel
theorem dX12_reads_90 : decode cX12_reads 90 = .ok (.invokevirtual 105, 3) := by decide +kernel
theorem dX12_reads_93 : decode cX12_reads 93 = .ok (.ifCond .eq 57, 3) := by decide +kernel
theorem dX12_reads_96 : decode cX12_reads 96 = .ok (.aload_n 0, 1) := by decide +kernel
theorem dX12_reads_97 : decode cX12_reads 97 = .ok (.aload_n 0, 1) := by decide +kernel
theorem dX12_reads_98 : decode cX12_reads 98 = .ok (.getfield 99, 3) := by decide +kernel
theorem dX12_reads_101 : decode cX12_reads 101 = .ok (.aload_n 0, 1) := by decide +kernel
theorem dX12_reads_102 : decode cX12_reads 102 = .ok (.getfield 102, 3) := by decide +kernel
theorem dX12_reads_105 : decode cX12_reads 105 = .ok (.isub, 1) := by decide +kernel
theorem dX12_reads_106 : decode cX12_reads 106 = .ok (.iconst 4, 1) := by decide +kernel
theorem dX12_reads_107 : decode cX12_reads 107 = .ok (.if_icmp .ge 26, 3) := by decide +kernel
theorem dX12_reads_110 : decode cX12_reads 110 = .ok (.bipush 10, 2) := by decide +kernel
theorem dX12_reads_112 : decode cX12_reads 112 = .ok (.aload_n 0, 1) := by decide +kernel
theorem dX12_reads_113 : decode cX12_reads 113 = .ok (.getfield 112, 3) := by decide +kernel
theorem dX12_reads_116 : decode cX12_reads 116 = .ok (.imul, 1) := by decide +kernel
theorem dX12_reads_117 : decode cX12_reads 117 = .ok (.aload_n 0, 1) := by decide +kernel
theorem dX12_reads_118 : decode cX12_reads 118 = .ok (.getfield 36, 3) := by decide +kernel
theorem dX12_reads_121 : decode cX12_reads 121 = .ok (.aload_n 0, 1) := by decide +kernel
theorem dX12_reads_122 : decode cX12_reads 122 = .ok (.getfield 99, 3) := by decide +kernel
theorem dX12_reads_125 : decode cX12_reads 125 = .ok (.iaload, 1) := by decide +kernel
theorem dX12_reads_126 : decode cX12_reads 126 = .ok (.iadd, 1) := by decide +kernel
theorem dX12_reads_127 : decode cX12_reads 127 = .ok (.bipush 48, 2) := by decide +kernel
theorem dX12_reads_129 : decode cX12_reads 129 = .ok (.isub, 1) := by decide +kernel
theorem dX12_reads_130 : decode cX12_reads 130 = .ok (.goto 4, 3) := by decide +kernel
theorem dX12_reads_133 : decode cX12_reads 133 = .ok (.iconst 0, 1) := by decide +kernel
theorem dX12_reads_134 : decode cX12_reads 134 = .ok (.putfield 112, 3) := by decide +kernel
theorem dX12_reads_137 : decode cX12_reads 137 = .ok (.aload_n 0, 1) := by decide +kernel
theorem dX12_reads_138 : decode cX12_reads 138 = .ok (.dup, 1) := by decide +kernel
theorem dX12_reads_139 : decode cX12_reads 139 = .ok (.getfield 99, 3) := by decide +kernel
theorem dX12_reads_142 : decode cX12_reads 142 = .ok (.iconst 1, 1) := by decide +kernel
theorem dX12_reads_143 : decode cX12_reads 143 = .ok (.iadd, 1) := by decide +kernel
theorem dX12_reads_144 : decode cX12_reads 144 = .ok (.putfield 99, 3) := by decide +kernel
theorem dX12_reads_147 : decode cX12_reads 147 = .ok (.goto (-62), 3) := by decide +kernel
theorem dX12_reads_150 : decode cX12_reads 150 = .ok (.aload_n 0, 1) := by decide +kernel
theorem dX12_reads_151 : decode cX12_reads 151 = .ok (.aload_n 0, 1) := by decide +kernel
theorem dX12_reads_152 : decode cX12_reads 152 = .ok (.getfield 99, 3) := by decide +kernel
theorem dX12_reads_155 : decode cX12_reads 155 = .ok (.aload_n 0, 1) := by decide +kernel
theorem dX12_reads_156 : decode cX12_reads 156 = .ok (.getfield 102, 3) := by decide +kernel
theorem dX12_reads_159 : decode cX12_reads 159 = .ok (.isub, 1) := by decide +kernel
theorem dX12_reads_160 : decode cX12_reads 160 = .ok (.iconst 4, 1) := by decide +kernel
theorem dX12_reads_161 : decode cX12_reads 161 = .ok (.if_icmp .le 8, 3) := by decide +kernel
theorem dX12_reads_164 : decode cX12_reads 164 = .ok (.bipush 104, 2) := by decide +kernel
theorem dX12_reads_166 : decode cX12_reads 166 = .ok (.goto 5, 3) := by decide +kernel
theorem dX12_reads_169 : decode cX12_reads 169 = .ok (.bipush 100, 2) := by decide +kernel
theorem dX12_reads_171 : decode cX12_reads 171 = .ok (.putfield 109, 3) := by decide +kernel
theorem dX12_reads_174 : decode cX12_reads 174 = .ok (.goto 129, 3) := by decide +kernel
theorem dX12_reads_177 : decode cX12_reads 177 = .ok (.aload_n 0, 1) := by decide +kernel
theorem dX12_reads_178 : decode cX12_reads 178 = .ok (.bipush 97, 2) := by decide +kernel
theorem dX12_reads_180 : decode cX12_reads 180 = .ok (.bipush 122, 2) := by decide +kernel
theorem dX12_reads_182 : decode cX12_reads 182 = .ok (.invokevirtual 105, 3) := by decide +kernel
theorem dX12_reads_185 : decode cX12_reads 185 = .ok (.ifCond .eq 74, 3) := by decide +kernel
theorem dX12_reads_188 : decode cX12_reads 188 = .ok (.aload_n 0, 1) := by decide +kernel
theorem dX12_reads_189 : decode cX12_reads 189 = .ok (.bipush 97, 2) := by decide +kernel
theorem dX12_reads_191 : decode cX12_reads 191 = .ok (.bipush 122, 2) := by decide +kernel
theorem dX12_reads_193 : decode cX12_reads 193 = .ok (.invokevirtual 105, 3) := by decide +kernel
theorem dX12_reads_196 : decode cX12_reads 196 = .ok (.ifCond .eq 16, 3) := by decide +kernel
theorem dX12_reads_199 : decode cX12_reads 199 = .ok (.aload_n 0, 1) := by decide +kernel
theorem dX12_reads_200 : decode cX12_reads 200 = .ok (.dup, 1) := by decide +kernel
theorem dX12_reads_201 : decode cX12_reads 201 = .ok (.getfield 99, 3) := by decide +kernel
theorem dX12_reads_204 : decode cX12_reads 204 = .ok (.iconst 1, 1) := by decide +kernel
theorem dX12_reads_205 : decode cX12_reads 205 = .ok (.iadd, 1) := by decide +kernel
theorem dX12_reads_206 : decode cX12_reads 206 = .ok (.putfield 99, 3) := by decide +kernel
theorem dX12_reads_209 : decode cX12_reads 209 = .ok (.goto (-21), 3) := by decide +kernel
theorem dX12_reads_212 : decode cX12_reads 212 = .ok (.iconst 0, 1) := by decide +kernel
theorem dX12_reads_213 : decode cX12_reads 213 = .ok (.istore_n 1, 1) := by decide +kernel
theorem dX12_reads_214 : decode cX12_reads 214 = .ok (.iload_n 1, 1) := by decide +kernel
theorem dX12_reads_215 : decode cX12_reads 215 = .ok (.aload_n 0, 1) := by decide +kernel
theorem dX12_reads_216 : decode cX12_reads 216 = .ok (.getfield 32, 3) := by decide +kernel
theorem dX12_reads_219 : decode cX12_reads 219 = .ok (.arraylength, 1) := by decide +kernel
theorem dX12_reads_220 : decode cX12_reads 220 = .ok (.if_icmp .ge 36, 3) := by decide +kernel
theorem dX12_reads_223 : decode cX12_reads 223 = .ok (.aload_n 0, 1) := by decide +kernel
theorem dX12_reads_224 : decode cX12_reads 224 = .ok (.aload_n 0, 1) := by decide +kernel
theorem dX12_reads_225 : decode cX12_reads 225 = .ok (.getfield 32, 3) := by decide +kernel
theorem dX12_reads_228 : decode cX12_reads 228 = .ok (.iload_n 1, 1) := by decide +kernel
theorem dX12_reads_229 : decode cX12_reads 229 = .ok (.aaload, 1) := by decide +kernel
theorem dX12_reads_230 : decode cX12_reads 230 = .ok (.invokevirtual 115, 3) := by decide +kernel
theorem dX12_reads_233 : decode cX12_reads 233 = .ok (.ifCond .ne 6, 3) := by decide +kernel
theorem dX12_reads_236 : decode cX12_reads 236 = .ok (.goto 14, 3) := by decide +kernel
theorem dX12_reads_239 : decode cX12_reads 239 = .ok (.aload_n 0, 1) := by decide +kernel
theorem dX12_reads_240 : decode cX12_reads 240 = .ok (.bipush 101, 2) := by decide +kernel
theorem dX12_reads_242 : decode cX12_reads 242 = .ok (.putfield 109, 3) := by decide +kernel
theorem dX12_reads_245 : decode cX12_reads 245 = .ok (.aload_n 0, 1) := by decide +kernel
theorem dX12_reads_246 : decode cX12_reads 246 = .ok (.iload_n 1, 1) := by decide +kernel
theorem dX12_reads_247 : decode cX12_reads 247 = .ok (.putfield 112, 3) := by decide +kernel
theorem dX12_reads_250 : decode cX12_reads 250 = .ok (.iinc 1 1, 3) := by decide +kernel
theorem dX12_reads_253 : decode cX12_reads 253 = .ok (.goto (-39), 3) := by decide +kernel
theorem dX12_reads_256 : decode cX12_reads 256 = .ok (.goto 47, 3) := by decide +kernel
theorem dX12_reads_259 : decode cX12_reads 259 = .ok (.aload_n 0, 1) := by decide +kernel
theorem dX12_reads_260 : decode cX12_reads 260 = .ok (.getfield 36, 3) := by decide +kernel
theorem dX12_reads_263 : decode cX12_reads 263 = .ok (.aload_n 0, 1) := by decide +kernel
theorem dX12_reads_264 : decode cX12_reads 264 = .ok (.getfield 99, 3) := by decide +kernel
theorem dX12_reads_267 : decode cX12_reads 267 = .ok (.iaload, 1) := by decide +kernel
theorem dX12_reads_268 : decode cX12_reads 268 = .ok (.invokestatic 119, 3) := by decide +kernel
theorem dX12_reads_271 : decode cX12_reads 271 = .ok (.ifCond .eq 32, 3) := by decide +kernel
theorem dX12_reads_274 : decode cX12_reads 274 = .ok (.aload_n 0, 1) := by decide +kernel
theorem dX12_reads_275 : decode cX12_reads 275 = .ok (.bipush 102, 2) := by decide +kernel
theorem dX12_reads_277 : decode cX12_reads 277 = .ok (.putfield 109, 3) := by decide +kernel
theorem dX12_reads_280 : decode cX12_reads 280 = .ok (.aload_n 0, 1) := by decide +kernel
theorem dX12_reads_281 : decode cX12_reads 281 = .ok (.aload_n 0, 1) := by decide +kernel
theorem dX12_reads_282 : decode cX12_reads 282 = .ok (.getfield 36, 3) := by decide +kernel
theorem dX12_reads_285 : decode cX12_reads 285 = .ok (.aload_n 0, 1) := by decide +kernel
theorem dX12_reads_286 : decode cX12_reads 286 = .ok (.getfield 99, 3) := by decide +kernel
theorem dX12_reads_289 : decode cX12_reads 289 = .ok (.iaload, 1) := by decide +kernel
theorem dX12_reads_290 : decode cX12_reads 290 = .ok (.putfield 112, 3) := by decide +kernel
theorem dX12_reads_293 : decode cX12_reads 293 = .ok (.aload_n 0, 1) := by decide +kernel
theorem dX12_reads_294 : decode cX12_reads 294 = .ok (.dup, 1) := by decide +kernel
theorem dX12_reads_295 : decode cX12_reads 295 = .ok (.getfield 99, 3) := by decide +kernel
theorem dX12_reads_298 : decode cX12_reads 298 = .ok (.iconst 1, 1) := by decide +kernel
theorem dX12_reads_299 : decode cX12_reads 299 = .ok (.iadd, 1) := by decide +kernel
theorem dX12_reads_300 : decode cX12_reads 300 = .ok (.putfield 99, 3) := by decide +kernel
theorem dX12_reads_303 : decode cX12_reads 303 = .ok (.return_, 1) := by decide +kernel
theorem dX12_top_0 : decode cX12_top 0 = .ok (.aload_n 0, 1) := by decide +kernel
theorem dX12_top_1 : decode cX12_top 1 = .ok (.getfield 123, 3) := by decide +kernel
theorem dX12_top_4 : decode cX12_top 4 = .ok (.ifCond .ne 7, 3) := by decide +kernel
theorem dX12_top_7 : decode cX12_top 7 = .ok (.iconst 0, 1) := by decide +kernel
theorem dX12_top_8 : decode cX12_top 8 = .ok (.goto 14, 3) := by decide +kernel
theorem dX12_top_11 : decode cX12_top 11 = .ok (.aload_n 0, 1) := by decide +kernel
theorem dX12_top_12 : decode cX12_top 12 = .ok (.getfield 45, 3) := by decide +kernel
theorem dX12_top_15 : decode cX12_top 15 = .ok (.aload_n 0, 1) := by decide +kernel
theorem dX12_top_16 : decode cX12_top 16 = .ok (.getfield 123, 3) := by decide +kernel
theorem dX12_top_19 : decode cX12_top 19 = .ok (.iconst 1, 1) := by decide +kernel
theorem dX12_top_20 : decode cX12_top 20 = .ok (.isub, 1) := by decide +kernel
theorem dX12_top_21 : decode cX12_top 21 = .ok (.iaload, 1) := by decide +kernel
theorem dX12_top_22 : decode cX12_top 22 = .ok (.ireturn, 1) := by decide +kernel
theorem dX12_holds_0 : decode cX12_holds 0 = .ok (.aload_n 0, 1) := by decide +kernel
theorem dX12_holds_1 : decode cX12_holds 1 = .ok (.getfield 45, 3) := by decide +kernel
theorem dX12_holds_4 : decode cX12_holds 4 = .ok (.aload_n 0, 1) := by decide +kernel
theorem dX12_holds_5 : decode cX12_holds 5 = .ok (.getfield 123, 3) := by decide +kernel
theorem dX12_holds_8 : decode cX12_holds 8 = .ok (.iload_n 1, 1) := by decide +kernel
theorem dX12_holds_9 : decode cX12_holds 9 = .ok (.iastore, 1) := by decide +kernel
theorem dX12_holds_10 : decode cX12_holds 10 = .ok (.aload_n 0, 1) := by decide +kernel
theorem dX12_holds_11 : decode cX12_holds 11 = .ok (.dup, 1) := by decide +kernel
theorem dX12_holds_12 : decode cX12_holds 12 = .ok (.getfield 123, 3) := by decide +kernel
theorem dX12_holds_15 : decode cX12_holds 15 = .ok (.iconst 1, 1) := by decide +kernel
theorem dX12_holds_16 : decode cX12_holds 16 = .ok (.iadd, 1) := by decide +kernel
theorem dX12_holds_17 : decode cX12_holds 17 = .ok (.putfield 123, 3) := by decide +kernel
theorem dX12_holds_20 : decode cX12_holds 20 = .ok (.return_, 1) := by decide +kernel
theorem dX12_lets_0 : decode cX12_lets 0 = .ok (.aload_n 0, 1) := by decide +kernel
theorem dX12_lets_1 : decode cX12_lets 1 = .ok (.dup, 1) := by decide +kernel
theorem dX12_lets_2 : decode cX12_lets 2 = .ok (.getfield 123, 3) := by decide +kernel
theorem dX12_lets_5 : decode cX12_lets 5 = .ok (.iconst 1, 1) := by decide +kernel
theorem dX12_lets_6 : decode cX12_lets 6 = .ok (.isub, 1) := by decide +kernel
theorem dX12_lets_7 : decode cX12_lets 7 = .ok (.putfield 123, 3) := by decide +kernel
theorem dX12_lets_10 : decode cX12_lets 10 = .ok (.aload_n 0, 1) := by decide +kernel
theorem dX12_lets_11 : decode cX12_lets 11 = .ok (.getfield 45, 3) := by decide +kernel
theorem dX12_lets_14 : decode cX12_lets 14 = .ok (.aload_n 0, 1) := by decide +kernel
theorem dX12_lets_15 : decode cX12_lets 15 = .ok (.getfield 123, 3) := by decide +kernel
theorem dX12_lets_18 : decode cX12_lets 18 = .ok (.iaload, 1) := by decide +kernel
theorem dX12_lets_19 : decode cX12_lets 19 = .ok (.istore_n 1, 1) := by decide +kernel
theorem dX12_lets_20 : decode cX12_lets 20 = .ok (.iload_n 1, 1) := by decide +kernel
theorem dX12_lets_21 : decode cX12_lets 21 = .ok (.bipush 8, 2) := by decide +kernel
theorem dX12_lets_23 : decode cX12_lets 23 = .ok (.if_icmp .eq 9, 3) := by decide +kernel
theorem dX12_lets_26 : decode cX12_lets 26 = .ok (.iload_n 1, 1) := by decide +kernel
theorem dX12_lets_27 : decode cX12_lets 27 = .ok (.bipush 9, 2) := by decide +kernel
theorem dX12_lets_29 : decode cX12_lets 29 = .ok (.if_icmp .ne 13, 3) := by decide +kernel
theorem dX12_lets_32 : decode cX12_lets 32 = .ok (.aload_n 0, 1) := by decide +kernel
theorem dX12_lets_33 : decode cX12_lets 33 = .ok (.dup, 1) := by decide +kernel
theorem dX12_lets_34 : decode cX12_lets 34 = .ok (.getfield 126, 3) := by decide +kernel
theorem dX12_lets_37 : decode cX12_lets 37 = .ok (.iconst 1, 1) := by decide +kernel
theorem dX12_lets_38 : decode cX12_lets 38 = .ok (.isub, 1) := by decide +kernel
theorem dX12_lets_39 : decode cX12_lets 39 = .ok (.putfield 126, 3) := by decide +kernel
theorem dX12_lets_42 : decode cX12_lets 42 = .ok (.aload_n 0, 1) := by decide +kernel
theorem dX12_lets_43 : decode cX12_lets 43 = .ok (.sipush 30000, 3) := by decide +kernel
theorem dX12_lets_46 : decode cX12_lets 46 = .ok (.iload_n 1, 1) := by decide +kernel
theorem dX12_lets_47 : decode cX12_lets 47 = .ok (.iadd, 1) := by decide +kernel
theorem dX12_lets_48 : decode cX12_lets 48 = .ok (.invokevirtual 88, 3) := by decide +kernel
theorem dX12_lets_51 : decode cX12_lets 51 = .ok (.return_, 1) := by decide +kernel
theorem dX12_letsFrom_0 : decode cX12_letsFrom 0 = .ok (.aload_n 0, 1) := by decide +kernel
theorem dX12_letsFrom_1 : decode cX12_letsFrom 1 = .ok (.getfield 123, 3) := by decide +kernel
theorem dX12_letsFrom_4 : decode cX12_letsFrom 4 = .ok (.ifCond .le 21, 3) := by decide +kernel
theorem dX12_letsFrom_7 : decode cX12_letsFrom 7 = .ok (.aload_n 0, 1) := by decide +kernel
theorem dX12_letsFrom_8 : decode cX12_letsFrom 8 = .ok (.invokevirtual 129, 3) := by decide +kernel
theorem dX12_letsFrom_11 : decode cX12_letsFrom 11 = .ok (.invokestatic 133, 3) := by decide +kernel
theorem dX12_letsFrom_14 : decode cX12_letsFrom 14 = .ok (.iload_n 1, 1) := by decide +kernel
theorem dX12_letsFrom_15 : decode cX12_letsFrom 15 = .ok (.if_icmp .lt 10, 3) := by decide +kernel
theorem dX12_letsFrom_18 : decode cX12_letsFrom 18 = .ok (.aload_n 0, 1) := by decide +kernel
theorem dX12_letsFrom_19 : decode cX12_letsFrom 19 = .ok (.invokevirtual 137, 3) := by decide +kernel
theorem dX12_letsFrom_22 : decode cX12_letsFrom 22 = .ok (.goto (-22), 3) := by decide +kernel
theorem dX12_letsFrom_25 : decode cX12_letsFrom 25 = .ok (.return_, 1) := by decide +kernel
theorem dX12_heightOf_0 : decode cX12_heightOf 0 = .ok (.iload_n 0, 1) := by decide +kernel
theorem dX12_heightOf_1 : decode cX12_heightOf 1 = .ok (.tableswitch 67 1 9 #[59, 59, 61, 57, 57, 53, 51, 55, 64], 51) := by decide +kernel
theorem dX12_heightOf_52 : decode cX12_heightOf 52 = .ok (.iconst 1, 1) := by decide +kernel
theorem dX12_heightOf_53 : decode cX12_heightOf 53 = .ok (.ireturn, 1) := by decide +kernel
theorem dX12_heightOf_54 : decode cX12_heightOf 54 = .ok (.iconst 2, 1) := by decide +kernel
theorem dX12_heightOf_55 : decode cX12_heightOf 55 = .ok (.ireturn, 1) := by decide +kernel
theorem dX12_heightOf_56 : decode cX12_heightOf 56 = .ok (.iconst 3, 1) := by decide +kernel
theorem dX12_heightOf_57 : decode cX12_heightOf 57 = .ok (.ireturn, 1) := by decide +kernel
theorem dX12_heightOf_58 : decode cX12_heightOf 58 = .ok (.iconst 4, 1) := by decide +kernel
theorem dX12_heightOf_59 : decode cX12_heightOf 59 = .ok (.ireturn, 1) := by decide +kernel
theorem dX12_heightOf_60 : decode cX12_heightOf 60 = .ok (.iconst 5, 1) := by decide +kernel
theorem dX12_heightOf_61 : decode cX12_heightOf 61 = .ok (.ireturn, 1) := by decide +kernel
theorem dX12_heightOf_62 : decode cX12_heightOf 62 = .ok (.bipush 6, 2) := by decide +kernel
theorem dX12_heightOf_64 : decode cX12_heightOf 64 = .ok (.ireturn, 1) := by decide +kernel
theorem dX12_heightOf_65 : decode cX12_heightOf 65 = .ok (.bipush 7, 2) := by decide +kernel
theorem dX12_heightOf_67 : decode cX12_heightOf 67 = .ok (.ireturn, 1) := by decide +kernel
theorem dX12_heightOf_68 : decode cX12_heightOf 68 = .ok (.iconst 0, 1) := by decide +kernel
theorem dX12_heightOf_69 : decode cX12_heightOf 69 = .ok (.ireturn, 1) := by decide +kernel
theorem dX12_mayNot_0 : decode cX12_mayNot 0 = .ok (.aload_n 0, 1) := by decide +kernel
theorem dX12_mayNot_1 : decode cX12_mayNot 1 = .ok (.invokevirtual 129, 3) := by decide +kernel
theorem dX12_mayNot_4 : decode cX12_mayNot 4 = .ok (.istore_n 1, 1) := by decide +kernel
theorem dX12_mayNot_5 : decode cX12_mayNot 5 = .ok (.aload_n 0, 1) := by decide +kernel
theorem dX12_mayNot_6 : decode cX12_mayNot 6 = .ok (.getfield 123, 3) := by decide +kernel
theorem dX12_mayNot_9 : decode cX12_mayNot 9 = .ok (.ifCond .eq 27, 3) := by decide +kernel
theorem dX12_mayNot_12 : decode cX12_mayNot 12 = .ok (.iload_n 1, 1) := by decide +kernel
theorem dX12_mayNot_13 : decode cX12_mayNot 13 = .ok (.bipush 10, 2) := by decide +kernel
theorem dX12_mayNot_15 : decode cX12_mayNot 15 = .ok (.if_icmp .eq 21, 3) := by decide +kernel
theorem dX12_mayNot_18 : decode cX12_mayNot 18 = .ok (.iload_n 1, 1) := by decide +kernel
theorem dX12_mayNot_19 : decode cX12_mayNot 19 = .ok (.bipush 7, 2) := by decide +kernel
theorem dX12_mayNot_21 : decode cX12_mayNot 21 = .ok (.if_icmp .eq 15, 3) := by decide +kernel
theorem dX12_mayNot_24 : decode cX12_mayNot 24 = .ok (.iload_n 1, 1) := by decide +kernel
theorem dX12_mayNot_25 : decode cX12_mayNot 25 = .ok (.bipush 6, 2) := by decide +kernel
theorem dX12_mayNot_27 : decode cX12_mayNot 27 = .ok (.if_icmp .eq 9, 3) := by decide +kernel
theorem dX12_mayNot_30 : decode cX12_mayNot 30 = .ok (.iload_n 1, 1) := by decide +kernel
theorem dX12_mayNot_31 : decode cX12_mayNot 31 = .ok (.bipush 8, 2) := by decide +kernel
theorem dX12_mayNot_33 : decode cX12_mayNot 33 = .ok (.if_icmp .ne 7, 3) := by decide +kernel
theorem dX12_mayNot_36 : decode cX12_mayNot 36 = .ok (.iconst 1, 1) := by decide +kernel
theorem dX12_mayNot_37 : decode cX12_mayNot 37 = .ok (.goto 4, 3) := by decide +kernel
theorem dX12_mayNot_40 : decode cX12_mayNot 40 = .ok (.iconst 0, 1) := by decide +kernel
theorem dX12_mayNot_41 : decode cX12_mayNot 41 = .ok (.ireturn, 1) := by decide +kernel
theorem dX12_ahead_0 : decode cX12_ahead 0 = .ok (.aload_n 0, 1) := by decide +kernel
theorem dX12_ahead_1 : decode cX12_ahead 1 = .ok (.getfield 109, 3) := by decide +kernel
theorem dX12_ahead_4 : decode cX12_ahead 4 = .ok (.bipush 100, 2) := by decide +kernel
theorem dX12_ahead_6 : decode cX12_ahead 6 = .ok (.if_icmp .eq 21, 3) := by decide +kernel
theorem dX12_ahead_9 : decode cX12_ahead 9 = .ok (.aload_n 0, 1) := by decide +kernel
theorem dX12_ahead_10 : decode cX12_ahead 10 = .ok (.getfield 109, 3) := by decide +kernel
theorem dX12_ahead_13 : decode cX12_ahead 13 = .ok (.bipush 101, 2) := by decide +kernel
theorem dX12_ahead_15 : decode cX12_ahead 15 = .ok (.if_icmp .ne 42, 3) := by decide +kernel
theorem dX12_ahead_18 : decode cX12_ahead 18 = .ok (.aload_n 0, 1) := by decide +kernel
theorem dX12_ahead_19 : decode cX12_ahead 19 = .ok (.getfield 112, 3) := by decide +kernel
theorem dX12_ahead_22 : decode cX12_ahead 22 = .ok (.bipush 6, 2) := by decide +kernel
theorem dX12_ahead_24 : decode cX12_ahead 24 = .ok (.if_icmp .ge 33, 3) := by decide +kernel
theorem dX12_ahead_27 : decode cX12_ahead 27 = .ok (.aload_n 0, 1) := by decide +kernel
theorem dX12_ahead_28 : decode cX12_ahead 28 = .ok (.aload_n 0, 1) := by decide +kernel
theorem dX12_ahead_29 : decode cX12_ahead 29 = .ok (.getfield 109, 3) := by decide +kernel
theorem dX12_ahead_32 : decode cX12_ahead 32 = .ok (.bipush 100, 2) := by decide +kernel
theorem dX12_ahead_34 : decode cX12_ahead 34 = .ok (.if_icmp .ne 10, 3) := by decide +kernel
theorem dX12_ahead_37 : decode cX12_ahead 37 = .ok (.aload_n 0, 1) := by decide +kernel
theorem dX12_ahead_38 : decode cX12_ahead 38 = .ok (.getfield 112, 3) := by decide +kernel
theorem dX12_ahead_41 : decode cX12_ahead 41 = .ok (.goto 11, 3) := by decide +kernel
theorem dX12_ahead_44 : decode cX12_ahead 44 = .ok (.sipush 20000, 3) := by decide +kernel
theorem dX12_ahead_47 : decode cX12_ahead 47 = .ok (.aload_n 0, 1) := by decide +kernel
theorem dX12_ahead_48 : decode cX12_ahead 48 = .ok (.getfield 112, 3) := by decide +kernel
theorem dX12_ahead_51 : decode cX12_ahead 51 = .ok (.iadd, 1) := by decide +kernel
theorem dX12_ahead_52 : decode cX12_ahead 52 = .ok (.invokevirtual 88, 3) := by decide +kernel
theorem dX12_ahead_55 : decode cX12_ahead 55 = .ok (.iconst 1, 1) := by decide +kernel
theorem dX12_ahead_56 : decode cX12_ahead 56 = .ok (.ireturn, 1) := by decide +kernel
theorem dX12_ahead_57 : decode cX12_ahead 57 = .ok (.aload_n 0, 1) := by decide +kernel
theorem dX12_ahead_58 : decode cX12_ahead 58 = .ok (.getfield 109, 3) := by decide +kernel
theorem dX12_ahead_61 : decode cX12_ahead 61 = .ok (.bipush 101, 2) := by decide +kernel
theorem dX12_ahead_63 : decode cX12_ahead 63 = .ok (.if_icmp .ne 24, 3) := by decide +kernel
theorem dX12_ahead_66 : decode cX12_ahead 66 = .ok (.aload_n 0, 1) := by decide +kernel
theorem dX12_ahead_67 : decode cX12_ahead 67 = .ok (.getfield 112, 3) := by decide +kernel
theorem dX12_ahead_70 : decode cX12_ahead 70 = .ok (.bipush 11, 2) := by decide +kernel
theorem dX12_ahead_72 : decode cX12_ahead 72 = .ok (.if_icmp .ne 15, 3) := by decide +kernel
theorem dX12_ahead_75 : decode cX12_ahead 75 = .ok (.aload_n 0, 1) := by decide +kernel
theorem dX12_ahead_76 : decode cX12_ahead 76 = .ok (.invokevirtual 140, 3) := by decide +kernel
theorem dX12_ahead_79 : decode cX12_ahead 79 = .ok (.ifCond .eq 8, 3) := by decide +kernel
theorem dX12_ahead_82 : decode cX12_ahead 82 = .ok (.bipush 8, 2) := by decide +kernel
theorem dX12_ahead_84 : decode cX12_ahead 84 = .ok (.goto 50, 3) := by decide +kernel
theorem dX12_ahead_87 : decode cX12_ahead 87 = .ok (.aload_n 0, 1) := by decide +kernel
theorem dX12_ahead_88 : decode cX12_ahead 88 = .ok (.getfield 109, 3) := by decide +kernel
theorem dX12_ahead_91 : decode cX12_ahead 91 = .ok (.bipush 102, 2) := by decide +kernel
theorem dX12_ahead_93 : decode cX12_ahead 93 = .ok (.if_icmp .ne 17, 3) := by decide +kernel
theorem dX12_ahead_96 : decode cX12_ahead 96 = .ok (.aload_n 0, 1) := by decide +kernel
theorem dX12_ahead_97 : decode cX12_ahead 97 = .ok (.getfield 112, 3) := by decide +kernel
theorem dX12_ahead_100 : decode cX12_ahead 100 = .ok (.bipush 45, 2) := by decide +kernel
theorem dX12_ahead_102 : decode cX12_ahead 102 = .ok (.if_icmp .ne 8, 3) := by decide +kernel
theorem dX12_ahead_105 : decode cX12_ahead 105 = .ok (.bipush 9, 2) := by decide +kernel
theorem dX12_ahead_107 : decode cX12_ahead 107 = .ok (.goto 27, 3) := by decide +kernel
theorem dX12_ahead_110 : decode cX12_ahead 110 = .ok (.aload_n 0, 1) := by decide +kernel
theorem dX12_ahead_111 : decode cX12_ahead 111 = .ok (.getfield 109, 3) := by decide +kernel
theorem dX12_ahead_114 : decode cX12_ahead 114 = .ok (.bipush 102, 2) := by decide +kernel
theorem dX12_ahead_116 : decode cX12_ahead 116 = .ok (.if_icmp .ne 17, 3) := by decide +kernel
theorem dX12_ahead_119 : decode cX12_ahead 119 = .ok (.aload_n 0, 1) := by decide +kernel
theorem dX12_ahead_120 : decode cX12_ahead 120 = .ok (.getfield 112, 3) := by decide +kernel
theorem dX12_ahead_123 : decode cX12_ahead 123 = .ok (.bipush 40, 2) := by decide +kernel
theorem dX12_ahead_125 : decode cX12_ahead 125 = .ok (.if_icmp .ne 8, 3) := by decide +kernel
theorem dX12_ahead_128 : decode cX12_ahead 128 = .ok (.bipush 10, 2) := by decide +kernel
theorem dX12_ahead_130 : decode cX12_ahead 130 = .ok (.goto 4, 3) := by decide +kernel
theorem dX12_ahead_133 : decode cX12_ahead 133 = .ok (.iconst 0, 1) := by decide +kernel
theorem dX12_ahead_134 : decode cX12_ahead 134 = .ok (.istore_n 1, 1) := by decide +kernel
theorem dX12_ahead_135 : decode cX12_ahead 135 = .ok (.iload_n 1, 1) := by decide +kernel
theorem dX12_ahead_136 : decode cX12_ahead 136 = .ok (.ifCond .eq 11, 3) := by decide +kernel
theorem dX12_ahead_139 : decode cX12_ahead 139 = .ok (.aload_n 0, 1) := by decide +kernel
theorem dX12_ahead_140 : decode cX12_ahead 140 = .ok (.getfield 126, 3) := by decide +kernel
theorem dX12_ahead_143 : decode cX12_ahead 143 = .ok (.iconst 5, 1) := by decide +kernel
theorem dX12_ahead_144 : decode cX12_ahead 144 = .ok (.if_icmp .ne 5, 3) := by decide +kernel
theorem dX12_ahead_147 : decode cX12_ahead 147 = .ok (.iconst (-1), 1) := by decide +kernel
theorem dX12_ahead_148 : decode cX12_ahead 148 = .ok (.ireturn, 1) := by decide +kernel
theorem dX12_ahead_149 : decode cX12_ahead 149 = .ok (.aload_n 0, 1) := by decide +kernel
theorem dX12_ahead_150 : decode cX12_ahead 150 = .ok (.dup, 1) := by decide +kernel
theorem dX12_ahead_151 : decode cX12_ahead 151 = .ok (.getfield 126, 3) := by decide +kernel
theorem dX12_ahead_154 : decode cX12_ahead 154 = .ok (.iconst 1, 1) := by decide +kernel
theorem dX12_ahead_155 : decode cX12_ahead 155 = .ok (.iadd, 1) := by decide +kernel
theorem dX12_ahead_156 : decode cX12_ahead 156 = .ok (.putfield 126, 3) := by decide +kernel
theorem dX12_ahead_159 : decode cX12_ahead 159 = .ok (.aload_n 0, 1) := by decide +kernel
theorem dX12_ahead_160 : decode cX12_ahead 160 = .ok (.iload_n 1, 1) := by decide +kernel
theorem dX12_ahead_161 : decode cX12_ahead 161 = .ok (.invokevirtual 144, 3) := by decide +kernel
theorem dX12_ahead_164 : decode cX12_ahead 164 = .ok (.iconst 0, 1) := by decide +kernel
theorem dX12_ahead_165 : decode cX12_ahead 165 = .ok (.ireturn, 1) := by decide +kernel
theorem dX12_deedOf_0 : decode cX12_deedOf 0 = .ok (.iload_n 0, 1) := by decide +kernel
theorem dX12_deedOf_1 : decode cX12_deedOf 1 = .ok (.bipush 43, 2) := by decide +kernel
theorem dX12_deedOf_3 : decode cX12_deedOf 3 = .ok (.if_icmp .ne 7, 3) := by decide +kernel
theorem dX12_deedOf_6 : decode cX12_deedOf 6 = .ok (.iconst 1, 1) := by decide +kernel
theorem dX12_deedOf_7 : decode cX12_deedOf 7 = .ok (.goto 44, 3) := by decide +kernel
theorem dX12_deedOf_10 : decode cX12_deedOf 10 = .ok (.iload_n 0, 1) := by decide +kernel
theorem dX12_deedOf_11 : decode cX12_deedOf 11 = .ok (.bipush 45, 2) := by decide +kernel
theorem dX12_deedOf_13 : decode cX12_deedOf 13 = .ok (.if_icmp .ne 7, 3) := by decide +kernel
theorem dX12_deedOf_16 : decode cX12_deedOf 16 = .ok (.iconst 2, 1) := by decide +kernel
theorem dX12_deedOf_17 : decode cX12_deedOf 17 = .ok (.goto 34, 3) := by decide +kernel
theorem dX12_deedOf_20 : decode cX12_deedOf 20 = .ok (.iload_n 0, 1) := by decide +kernel
theorem dX12_deedOf_21 : decode cX12_deedOf 21 = .ok (.bipush 42, 2) := by decide +kernel
theorem dX12_deedOf_23 : decode cX12_deedOf 23 = .ok (.if_icmp .ne 7, 3) := by decide +kernel
theorem dX12_deedOf_26 : decode cX12_deedOf 26 = .ok (.iconst 3, 1) := by decide +kernel
theorem dX12_deedOf_27 : decode cX12_deedOf 27 = .ok (.goto 24, 3) := by decide +kernel
theorem dX12_deedOf_30 : decode cX12_deedOf 30 = .ok (.iload_n 0, 1) := by decide +kernel
theorem dX12_deedOf_31 : decode cX12_deedOf 31 = .ok (.bipush 60, 2) := by decide +kernel
theorem dX12_deedOf_33 : decode cX12_deedOf 33 = .ok (.if_icmp .ne 7, 3) := by decide +kernel
theorem dX12_deedOf_36 : decode cX12_deedOf 36 = .ok (.iconst 4, 1) := by decide +kernel
theorem dX12_deedOf_37 : decode cX12_deedOf 37 = .ok (.goto 14, 3) := by decide +kernel
theorem dX12_deedOf_40 : decode cX12_deedOf 40 = .ok (.iload_n 0, 1) := by decide +kernel
theorem dX12_deedOf_41 : decode cX12_deedOf 41 = .ok (.bipush 61, 2) := by decide +kernel
theorem dX12_deedOf_43 : decode cX12_deedOf 43 = .ok (.if_icmp .ne 7, 3) := by decide +kernel
theorem dX12_deedOf_46 : decode cX12_deedOf 46 = .ok (.iconst 5, 1) := by decide +kernel
theorem dX12_deedOf_47 : decode cX12_deedOf 47 = .ok (.goto 4, 3) := by decide +kernel
theorem dX12_deedOf_50 : decode cX12_deedOf 50 = .ok (.iconst 0, 1) := by decide +kernel
theorem dX12_deedOf_51 : decode cX12_deedOf 51 = .ok (.ireturn, 1) := by decide +kernel
theorem dX12_behind_0 : decode cX12_behind 0 = .ok (.aload_n 0, 1) := by decide +kernel
theorem dX12_behind_1 : decode cX12_behind 1 = .ok (.bipush 7, 2) := by decide +kernel
theorem dX12_behind_3 : decode cX12_behind 3 = .ok (.invokevirtual 147, 3) := by decide +kernel
theorem dX12_behind_6 : decode cX12_behind 6 = .ok (.aload_n 0, 1) := by decide +kernel
theorem dX12_behind_7 : decode cX12_behind 7 = .ok (.getfield 109, 3) := by decide +kernel
theorem dX12_behind_10 : decode cX12_behind 10 = .ok (.bipush 102, 2) := by decide +kernel
theorem dX12_behind_12 : decode cX12_behind 12 = .ok (.if_icmp .ne 13, 3) := by decide +kernel
theorem dX12_behind_15 : decode cX12_behind 15 = .ok (.aload_n 0, 1) := by decide +kernel
theorem dX12_behind_16 : decode cX12_behind 16 = .ok (.getfield 112, 3) := by decide +kernel
theorem dX12_behind_19 : decode cX12_behind 19 = .ok (.invokestatic 150, 3) := by decide +kernel
theorem dX12_behind_22 : decode cX12_behind 22 = .ok (.goto 50, 3) := by decide +kernel
theorem dX12_behind_25 : decode cX12_behind 25 = .ok (.aload_n 0, 1) := by decide +kernel
theorem dX12_behind_26 : decode cX12_behind 26 = .ok (.getfield 109, 3) := by decide +kernel
theorem dX12_behind_29 : decode cX12_behind 29 = .ok (.bipush 101, 2) := by decide +kernel
theorem dX12_behind_31 : decode cX12_behind 31 = .ok (.if_icmp .ne 17, 3) := by decide +kernel
theorem dX12_behind_34 : decode cX12_behind 34 = .ok (.aload_n 0, 1) := by decide +kernel
theorem dX12_behind_35 : decode cX12_behind 35 = .ok (.getfield 112, 3) := by decide +kernel
theorem dX12_behind_38 : decode cX12_behind 38 = .ok (.bipush 9, 2) := by decide +kernel
theorem dX12_behind_40 : decode cX12_behind 40 = .ok (.if_icmp .ne 8, 3) := by decide +kernel
theorem dX12_behind_43 : decode cX12_behind 43 = .ok (.bipush 7, 2) := by decide +kernel
theorem dX12_behind_45 : decode cX12_behind 45 = .ok (.goto 27, 3) := by decide +kernel
theorem dX12_behind_48 : decode cX12_behind 48 = .ok (.aload_n 0, 1) := by decide +kernel
theorem dX12_behind_49 : decode cX12_behind 49 = .ok (.getfield 109, 3) := by decide +kernel
theorem dX12_behind_52 : decode cX12_behind 52 = .ok (.bipush 101, 2) := by decide +kernel
theorem dX12_behind_54 : decode cX12_behind 54 = .ok (.if_icmp .ne 17, 3) := by decide +kernel
theorem dX12_behind_57 : decode cX12_behind 57 = .ok (.aload_n 0, 1) := by decide +kernel
theorem dX12_behind_58 : decode cX12_behind 58 = .ok (.getfield 112, 3) := by decide +kernel
theorem dX12_behind_61 : decode cX12_behind 61 = .ok (.bipush 10, 2) := by decide +kernel
theorem dX12_behind_63 : decode cX12_behind 63 = .ok (.if_icmp .ne 8, 3) := by decide +kernel
theorem dX12_behind_66 : decode cX12_behind 66 = .ok (.bipush 6, 2) := by decide +kernel
theorem dX12_behind_68 : decode cX12_behind 68 = .ok (.goto 4, 3) := by decide +kernel
theorem dX12_behind_71 : decode cX12_behind 71 = .ok (.iconst 0, 1) := by decide +kernel
theorem dX12_behind_72 : decode cX12_behind 72 = .ok (.istore_n 1, 1) := by decide +kernel
theorem dX12_behind_73 : decode cX12_behind 73 = .ok (.iload_n 1, 1) := by decide +kernel
theorem dX12_behind_74 : decode cX12_behind 74 = .ok (.ifCond .eq 51, 3) := by decide +kernel
theorem dX12_behind_77 : decode cX12_behind 77 = .ok (.iload_n 1, 1) := by decide +kernel
theorem dX12_behind_78 : decode cX12_behind 78 = .ok (.iconst 4, 1) := by decide +kernel
theorem dX12_behind_79 : decode cX12_behind 79 = .ok (.if_icmp .eq 8, 3) := by decide +kernel
theorem dX12_behind_82 : decode cX12_behind 82 = .ok (.iload_n 1, 1) := by decide +kernel
theorem dX12_behind_83 : decode cX12_behind 83 = .ok (.iconst 5, 1) := by decide +kernel
theorem dX12_behind_84 : decode cX12_behind 84 = .ok (.if_icmp .ne 26, 3) := by decide +kernel
theorem dX12_behind_87 : decode cX12_behind 87 = .ok (.aload_n 0, 1) := by decide +kernel
theorem dX12_behind_88 : decode cX12_behind 88 = .ok (.iconst 5, 1) := by decide +kernel
theorem dX12_behind_89 : decode cX12_behind 89 = .ok (.invokevirtual 147, 3) := by decide +kernel
theorem dX12_behind_92 : decode cX12_behind 92 = .ok (.aload_n 0, 1) := by decide +kernel
theorem dX12_behind_93 : decode cX12_behind 93 = .ok (.invokevirtual 129, 3) := by decide +kernel
theorem dX12_behind_96 : decode cX12_behind 96 = .ok (.iconst 4, 1) := by decide +kernel
theorem dX12_behind_97 : decode cX12_behind 97 = .ok (.if_icmp .eq 11, 3) := by decide +kernel
theorem dX12_behind_100 : decode cX12_behind 100 = .ok (.aload_n 0, 1) := by decide +kernel
theorem dX12_behind_101 : decode cX12_behind 101 = .ok (.invokevirtual 129, 3) := by decide +kernel
theorem dX12_behind_104 : decode cX12_behind 104 = .ok (.iconst 5, 1) := by decide +kernel
theorem dX12_behind_105 : decode cX12_behind 105 = .ok (.if_icmp .ne 13, 3) := by decide +kernel
theorem dX12_behind_108 : decode cX12_behind 108 = .ok (.iconst (-1), 1) := by decide +kernel
theorem dX12_behind_109 : decode cX12_behind 109 = .ok (.ireturn, 1) := by decide +kernel
theorem dX12_behind_110 : decode cX12_behind 110 = .ok (.aload_n 0, 1) := by decide +kernel
theorem dX12_behind_111 : decode cX12_behind 111 = .ok (.iload_n 1, 1) := by decide +kernel
theorem dX12_behind_112 : decode cX12_behind 112 = .ok (.invokestatic 133, 3) := by decide +kernel
theorem dX12_behind_115 : decode cX12_behind 115 = .ok (.invokevirtual 147, 3) := by decide +kernel
theorem dX12_behind_118 : decode cX12_behind 118 = .ok (.aload_n 0, 1) := by decide +kernel
theorem dX12_behind_119 : decode cX12_behind 119 = .ok (.iload_n 1, 1) := by decide +kernel
theorem dX12_behind_120 : decode cX12_behind 120 = .ok (.invokevirtual 144, 3) := by decide +kernel
theorem dX12_behind_123 : decode cX12_behind 123 = .ok (.iconst 1, 1) := by decide +kernel
theorem dX12_behind_124 : decode cX12_behind 124 = .ok (.ireturn, 1) := by decide +kernel
theorem dX12_behind_125 : decode cX12_behind 125 = .ok (.aload_n 0, 1) := by decide +kernel
theorem dX12_behind_126 : decode cX12_behind 126 = .ok (.getfield 109, 3) := by decide +kernel
theorem dX12_behind_129 : decode cX12_behind 129 = .ok (.bipush 102, 2) := by decide +kernel
theorem dX12_behind_131 : decode cX12_behind 131 = .ok (.if_icmp .ne 21, 3) := by decide +kernel
theorem dX12_behind_134 : decode cX12_behind 134 = .ok (.aload_n 0, 1) := by decide +kernel
theorem dX12_behind_135 : decode cX12_behind 135 = .ok (.getfield 112, 3) := by decide +kernel
theorem dX12_behind_138 : decode cX12_behind 138 = .ok (.bipush 59, 2) := by decide +kernel
theorem dX12_behind_140 : decode cX12_behind 140 = .ok (.if_icmp .eq 14, 3) := by decide +kernel
theorem dX12_behind_143 : decode cX12_behind 143 = .ok (.aload_n 0, 1) := by decide +kernel
theorem dX12_behind_144 : decode cX12_behind 144 = .ok (.getfield 112, 3) := by decide +kernel
theorem dX12_behind_147 : decode cX12_behind 147 = .ok (.bipush 41, 2) := by decide +kernel
theorem dX12_behind_149 : decode cX12_behind 149 = .ok (.if_icmp .eq 5, 3) := by decide +kernel
theorem dX12_behind_152 : decode cX12_behind 152 = .ok (.iconst (-1), 1) := by decide +kernel
theorem dX12_behind_153 : decode cX12_behind 153 = .ok (.ireturn, 1) := by decide +kernel
theorem dX12_behind_154 : decode cX12_behind 154 = .ok (.aload_n 0, 1) := by decide +kernel
theorem dX12_behind_155 : decode cX12_behind 155 = .ok (.iconst 1, 1) := by decide +kernel
theorem dX12_behind_156 : decode cX12_behind 156 = .ok (.invokevirtual 147, 3) := by decide +kernel
theorem dX12_behind_159 : decode cX12_behind 159 = .ok (.aload_n 0, 1) := by decide +kernel
theorem dX12_behind_160 : decode cX12_behind 160 = .ok (.getfield 112, 3) := by decide +kernel
theorem dX12_behind_163 : decode cX12_behind 163 = .ok (.bipush 59, 2) := by decide +kernel
theorem dX12_behind_165 : decode cX12_behind 165 = .ok (.if_icmp .ne 16, 3) := by decide +kernel
theorem dX12_behind_168 : decode cX12_behind 168 = .ok (.aload_n 0, 1) := by decide +kernel
theorem dX12_behind_169 : decode cX12_behind 169 = .ok (.getfield 123, 3) := by decide +kernel
theorem dX12_behind_172 : decode cX12_behind 172 = .ok (.ifCond .ne 7, 3) := by decide +kernel
theorem dX12_behind_175 : decode cX12_behind 175 = .ok (.iconst 2, 1) := by decide +kernel
theorem dX12_behind_176 : decode cX12_behind 176 = .ok (.goto 4, 3) := by decide +kernel
theorem dX12_behind_179 : decode cX12_behind 179 = .ok (.iconst (-1), 1) := by decide +kernel
theorem dX12_behind_180 : decode cX12_behind 180 = .ok (.ireturn, 1) := by decide +kernel
theorem dX12_behind_181 : decode cX12_behind 181 = .ok (.aload_n 0, 1) := by decide +kernel
theorem dX12_behind_182 : decode cX12_behind 182 = .ok (.getfield 123, 3) := by decide +kernel
theorem dX12_behind_185 : decode cX12_behind 185 = .ok (.ifCond .ne 5, 3) := by decide +kernel
theorem dX12_behind_188 : decode cX12_behind 188 = .ok (.iconst (-1), 1) := by decide +kernel
theorem dX12_behind_189 : decode cX12_behind 189 = .ok (.ireturn, 1) := by decide +kernel
theorem dX12_behind_190 : decode cX12_behind 190 = .ok (.aload_n 0, 1) := by decide +kernel
theorem dX12_behind_191 : decode cX12_behind 191 = .ok (.dup, 1) := by decide +kernel
theorem dX12_behind_192 : decode cX12_behind 192 = .ok (.getfield 123, 3) := by decide +kernel
theorem dX12_behind_195 : decode cX12_behind 195 = .ok (.iconst 1, 1) := by decide +kernel
theorem dX12_behind_196 : decode cX12_behind 196 = .ok (.isub, 1) := by decide +kernel
theorem dX12_behind_197 : decode cX12_behind 197 = .ok (.putfield 123, 3) := by decide +kernel
theorem dX12_behind_200 : decode cX12_behind 200 = .ok (.aload_n 0, 1) := by decide +kernel
theorem dX12_behind_201 : decode cX12_behind 201 = .ok (.dup, 1) := by decide +kernel
theorem dX12_behind_202 : decode cX12_behind 202 = .ok (.getfield 126, 3) := by decide +kernel
theorem dX12_behind_205 : decode cX12_behind 205 = .ok (.iconst 1, 1) := by decide +kernel
theorem dX12_behind_206 : decode cX12_behind 206 = .ok (.isub, 1) := by decide +kernel
theorem dX12_behind_207 : decode cX12_behind 207 = .ok (.putfield 126, 3) := by decide +kernel
theorem dX12_behind_210 : decode cX12_behind 210 = .ok (.iconst 0, 1) := by decide +kernel
theorem dX12_behind_211 : decode cX12_behind 211 = .ok (.ireturn, 1) := by decide +kernel
theorem dX12_readsRow_0 : decode cX12_readsRow 0 = .ok (.aload_n 0, 1) := by decide +kernel
theorem dX12_readsRow_1 : decode cX12_readsRow 1 = .ok (.getfield 42, 3) := by decide +kernel
theorem dX12_readsRow_4 : decode cX12_readsRow 4 = .ok (.aload_n 0, 1) := by decide +kernel
theorem dX12_readsRow_5 : decode cX12_readsRow 5 = .ok (.getfield 85, 3) := by decide +kernel
theorem dX12_readsRow_8 : decode cX12_readsRow 8 = .ok (.iconst 0, 1) := by decide +kernel
theorem dX12_readsRow_9 : decode cX12_readsRow 9 = .ok (.iastore, 1) := by decide +kernel
theorem dX12_readsRow_10 : decode cX12_readsRow 10 = .ok (.aload_n 0, 1) := by decide +kernel
theorem dX12_readsRow_11 : decode cX12_readsRow 11 = .ok (.iconst 0, 1) := by decide +kernel
theorem dX12_readsRow_12 : decode cX12_readsRow 12 = .ok (.putfield 123, 3) := by decide +kernel
theorem dX12_readsRow_15 : decode cX12_readsRow 15 = .ok (.aload_n 0, 1) := by decide +kernel
theorem dX12_readsRow_16 : decode cX12_readsRow 16 = .ok (.iconst 0, 1) := by decide +kernel
theorem dX12_readsRow_17 : decode cX12_readsRow 17 = .ok (.putfield 126, 3) := by decide +kernel
theorem dX12_readsRow_20 : decode cX12_readsRow 20 = .ok (.iconst 1, 1) := by decide +kernel
theorem dX12_readsRow_21 : decode cX12_readsRow 21 = .ok (.istore_n 1, 1) := by decide +kernel
theorem dX12_readsRow_22 : decode cX12_readsRow 22 = .ok (.iload_n 1, 1) := by decide +kernel
theorem dX12_readsRow_23 : decode cX12_readsRow 23 = .ok (.ifCond .eq 10, 3) := by decide +kernel
theorem dX12_readsRow_26 : decode cX12_readsRow 26 = .ok (.aload_n 0, 1) := by decide +kernel
theorem dX12_readsRow_27 : decode cX12_readsRow 27 = .ok (.invokevirtual 153, 3) := by decide +kernel
theorem dX12_readsRow_30 : decode cX12_readsRow 30 = .ok (.goto 7, 3) := by decide +kernel
theorem dX12_readsRow_33 : decode cX12_readsRow 33 = .ok (.aload_n 0, 1) := by decide +kernel
theorem dX12_readsRow_34 : decode cX12_readsRow 34 = .ok (.invokevirtual 156, 3) := by decide +kernel
theorem dX12_readsRow_37 : decode cX12_readsRow 37 = .ok (.istore_n 2, 1) := by decide +kernel
theorem dX12_readsRow_38 : decode cX12_readsRow 38 = .ok (.iload_n 2, 1) := by decide +kernel
theorem dX12_readsRow_39 : decode cX12_readsRow 39 = .ok (.ifCond .ge 5, 3) := by decide +kernel
theorem dX12_readsRow_42 : decode cX12_readsRow 42 = .ok (.iconst 0, 1) := by decide +kernel
theorem dX12_readsRow_43 : decode cX12_readsRow 43 = .ok (.ireturn, 1) := by decide +kernel
theorem dX12_readsRow_44 : decode cX12_readsRow 44 = .ok (.iload_n 1, 1) := by decide +kernel
theorem dX12_readsRow_45 : decode cX12_readsRow 45 = .ok (.ifCond .ne 12, 3) := by decide +kernel
theorem dX12_readsRow_48 : decode cX12_readsRow 48 = .ok (.iload_n 2, 1) := by decide +kernel
theorem dX12_readsRow_49 : decode cX12_readsRow 49 = .ok (.iconst 2, 1) := by decide +kernel
theorem dX12_readsRow_50 : decode cX12_readsRow 50 = .ok (.if_icmp .ne 7, 3) := by decide +kernel
theorem dX12_readsRow_53 : decode cX12_readsRow 53 = .ok (.iconst 1, 1) := by decide +kernel
theorem dX12_readsRow_54 : decode cX12_readsRow 54 = .ok (.goto 4, 3) := by decide +kernel
theorem dX12_readsRow_57 : decode cX12_readsRow 57 = .ok (.iconst 0, 1) := by decide +kernel
theorem dX12_readsRow_58 : decode cX12_readsRow 58 = .ok (.istore_n 3, 1) := by decide +kernel
theorem dX12_readsRow_59 : decode cX12_readsRow 59 = .ok (.iload_n 1, 1) := by decide +kernel
theorem dX12_readsRow_60 : decode cX12_readsRow 60 = .ok (.ifCond .eq 15, 3) := by decide +kernel
theorem dX12_readsRow_63 : decode cX12_readsRow 63 = .ok (.iload_n 2, 1) := by decide +kernel
theorem dX12_readsRow_64 : decode cX12_readsRow 64 = .ok (.ifCond .ne 7, 3) := by decide +kernel
theorem dX12_readsRow_67 : decode cX12_readsRow 67 = .ok (.iconst 1, 1) := by decide +kernel
theorem dX12_readsRow_68 : decode cX12_readsRow 68 = .ok (.goto 17, 3) := by decide +kernel
theorem dX12_readsRow_71 : decode cX12_readsRow 71 = .ok (.iconst 0, 1) := by decide +kernel
theorem dX12_readsRow_72 : decode cX12_readsRow 72 = .ok (.goto 13, 3) := by decide +kernel
theorem dX12_readsRow_75 : decode cX12_readsRow 75 = .ok (.iload_n 2, 1) := by decide +kernel
theorem dX12_readsRow_76 : decode cX12_readsRow 76 = .ok (.iconst 1, 1) := by decide +kernel
theorem dX12_readsRow_77 : decode cX12_readsRow 77 = .ok (.if_icmp .ne 7, 3) := by decide +kernel
theorem dX12_readsRow_80 : decode cX12_readsRow 80 = .ok (.iconst 1, 1) := by decide +kernel
theorem dX12_readsRow_81 : decode cX12_readsRow 81 = .ok (.goto 4, 3) := by decide +kernel
theorem dX12_readsRow_84 : decode cX12_readsRow 84 = .ok (.iconst 0, 1) := by decide +kernel
theorem dX12_readsRow_85 : decode cX12_readsRow 85 = .ok (.istore_n 1, 1) := by decide +kernel
theorem dX12_readsRow_86 : decode cX12_readsRow 86 = .ok (.aload_n 0, 1) := by decide +kernel
theorem dX12_readsRow_87 : decode cX12_readsRow 87 = .ok (.invokevirtual 159, 3) := by decide +kernel
theorem dX12_readsRow_90 : decode cX12_readsRow 90 = .ok (.iload_n 3, 1) := by decide +kernel
theorem dX12_readsRow_91 : decode cX12_readsRow 91 = .ok (.ifCond .eq 5, 3) := by decide +kernel
theorem dX12_readsRow_94 : decode cX12_readsRow 94 = .ok (.iconst 1, 1) := by decide +kernel
theorem dX12_readsRow_95 : decode cX12_readsRow 95 = .ok (.ireturn, 1) := by decide +kernel
theorem dX12_readsRow_96 : decode cX12_readsRow 96 = .ok (.goto (-74), 3) := by decide +kernel
theorem dX12_text_0 : decode cX12_text 0 = .ok (.aload_n 0, 1) := by decide +kernel
theorem dX12_text_1 : decode cX12_text 1 = .ok (.getfield 51, 3) := by decide +kernel
theorem dX12_text_4 : decode cX12_text 4 = .ok (.bipush 6, 2) := by decide +kernel
theorem dX12_text_6 : decode cX12_text 6 = .ok (.if_icmp .ne 6, 3) := by decide +kernel
theorem dX12_text_9 : decode cX12_text 9 = .ok (.bipush (-4), 2) := by decide +kernel
theorem dX12_text_11 : decode cX12_text 11 = .ok (.ireturn, 1) := by decide +kernel
theorem dX12_text_12 : decode cX12_text 12 = .ok (.aload_n 0, 1) := by decide +kernel
theorem dX12_text_13 : decode cX12_text 13 = .ok (.iconst 0, 1) := by decide +kernel
theorem dX12_text_14 : decode cX12_text 14 = .ok (.putfield 99, 3) := by decide +kernel
theorem dX12_text_17 : decode cX12_text 17 = .ok (.aload_n 0, 1) := by decide +kernel
theorem dX12_text_18 : decode cX12_text 18 = .ok (.invokevirtual 159, 3) := by decide +kernel
theorem dX12_text_21 : decode cX12_text 21 = .ok (.iconst 1, 1) := by decide +kernel
theorem dX12_text_22 : decode cX12_text 22 = .ok (.istore_n 1, 1) := by decide +kernel
theorem dX12_text_23 : decode cX12_text 23 = .ok (.iconst 0, 1) := by decide +kernel
theorem dX12_text_24 : decode cX12_text 24 = .ok (.istore_n 2, 1) := by decide +kernel
theorem dX12_text_25 : decode cX12_text 25 = .ok (.iload_n 2, 1) := by decide +kernel
theorem dX12_text_26 : decode cX12_text 26 = .ok (.iconst 3, 1) := by decide +kernel
theorem dX12_text_27 : decode cX12_text 27 = .ok (.if_icmp .ge 67, 3) := by decide +kernel
theorem dX12_text_30 : decode cX12_text 30 = .ok (.iload_n 1, 1) := by decide +kernel
theorem dX12_text_31 : decode cX12_text 31 = .ok (.ifCond .eq 63, 3) := by decide +kernel
theorem dX12_text_34 : decode cX12_text 34 = .ok (.aload_n 0, 1) := by decide +kernel
theorem dX12_text_35 : decode cX12_text 35 = .ok (.getfield 109, 3) := by decide +kernel
theorem dX12_text_38 : decode cX12_text 38 = .ok (.bipush 101, 2) := by decide +kernel
theorem dX12_text_40 : decode cX12_text 40 = .ok (.if_icmp .ne 18, 3) := by decide +kernel
theorem dX12_text_43 : decode cX12_text 43 = .ok (.aload_n 0, 1) := by decide +kernel
theorem dX12_text_44 : decode cX12_text 44 = .ok (.getfield 112, 3) := by decide +kernel
theorem dX12_text_47 : decode cX12_text 47 = .ok (.bipush 6, 2) := by decide +kernel
theorem dX12_text_49 : decode cX12_text 49 = .ok (.iload_n 2, 1) := by decide +kernel
theorem dX12_text_50 : decode cX12_text 50 = .ok (.iadd, 1) := by decide +kernel
theorem dX12_text_51 : decode cX12_text 51 = .ok (.if_icmp .ne 7, 3) := by decide +kernel
theorem dX12_text_54 : decode cX12_text 54 = .ok (.iconst 1, 1) := by decide +kernel
theorem dX12_text_55 : decode cX12_text 55 = .ok (.goto 4, 3) := by decide +kernel
theorem dX12_text_58 : decode cX12_text 58 = .ok (.iconst 0, 1) := by decide +kernel
theorem dX12_text_59 : decode cX12_text 59 = .ok (.istore_n 1, 1) := by decide +kernel
theorem dX12_text_60 : decode cX12_text 60 = .ok (.iload_n 1, 1) := by decide +kernel
theorem dX12_text_61 : decode cX12_text 61 = .ok (.ifCond .ne 6, 3) := by decide +kernel
theorem dX12_text_64 : decode cX12_text 64 = .ok (.goto 24, 3) := by decide +kernel
theorem dX12_text_67 : decode cX12_text 67 = .ok (.aload_n 0, 1) := by decide +kernel
theorem dX12_text_68 : decode cX12_text 68 = .ok (.invokevirtual 159, 3) := by decide +kernel
theorem dX12_text_71 : decode cX12_text 71 = .ok (.aload_n 0, 1) := by decide +kernel
theorem dX12_text_72 : decode cX12_text 72 = .ok (.iconst 3, 1) := by decide +kernel
theorem dX12_text_73 : decode cX12_text 73 = .ok (.aload_n 0, 1) := by decide +kernel
theorem dX12_text_74 : decode cX12_text 74 = .ok (.getfield 51, 3) := by decide +kernel
theorem dX12_text_77 : decode cX12_text 77 = .ok (.imul, 1) := by decide +kernel
theorem dX12_text_78 : decode cX12_text 78 = .ok (.iload_n 2, 1) := by decide +kernel
theorem dX12_text_79 : decode cX12_text 79 = .ok (.iadd, 1) := by decide +kernel
theorem dX12_text_80 : decode cX12_text 80 = .ok (.putfield 85, 3) := by decide +kernel
theorem dX12_text_83 : decode cX12_text 83 = .ok (.aload_n 0, 1) := by decide +kernel
theorem dX12_text_84 : decode cX12_text 84 = .ok (.invokevirtual 162, 3) := by decide +kernel
theorem dX12_text_87 : decode cX12_text 87 = .ok (.istore_n 1, 1) := by decide +kernel
theorem dX12_text_88 : decode cX12_text 88 = .ok (.iinc 2 1, 3) := by decide +kernel
theorem dX12_text_91 : decode cX12_text 91 = .ok (.goto (-66), 3) := by decide +kernel
theorem dX12_text_94 : decode cX12_text 94 = .ok (.iload_n 1, 1) := by decide +kernel
theorem dX12_text_95 : decode cX12_text 95 = .ok (.ifCond .eq 16, 3) := by decide +kernel
theorem dX12_text_98 : decode cX12_text 98 = .ok (.aload_n 0, 1) := by decide +kernel
theorem dX12_text_99 : decode cX12_text 99 = .ok (.getfield 109, 3) := by decide +kernel
theorem dX12_text_102 : decode cX12_text 102 = .ok (.bipush 103, 2) := by decide +kernel
theorem dX12_text_104 : decode cX12_text 104 = .ok (.if_icmp .ne 7, 3) := by decide +kernel
theorem dX12_text_107 : decode cX12_text 107 = .ok (.iconst 1, 1) := by decide +kernel
theorem dX12_text_108 : decode cX12_text 108 = .ok (.goto 4, 3) := by decide +kernel
theorem dX12_text_111 : decode cX12_text 111 = .ok (.iconst 0, 1) := by decide +kernel
theorem dX12_text_112 : decode cX12_text 112 = .ok (.istore_n 1, 1) := by decide +kernel
theorem dX12_text_113 : decode cX12_text 113 = .ok (.aload_n 0, 1) := by decide +kernel
theorem dX12_text_114 : decode cX12_text 114 = .ok (.getfield 102, 3) := by decide +kernel
theorem dX12_text_117 : decode cX12_text 117 = .ok (.istore_n 2, 1) := by decide +kernel
theorem dX12_text_118 : decode cX12_text 118 = .ok (.aload_n 0, 1) := by decide +kernel
theorem dX12_text_119 : decode cX12_text 119 = .ok (.iconst 0, 1) := by decide +kernel
theorem dX12_text_120 : decode cX12_text 120 = .ok (.putfield 96, 3) := by decide +kernel
theorem dX12_text_123 : decode cX12_text 123 = .ok (.iload_n 1, 1) := by decide +kernel
theorem dX12_text_124 : decode cX12_text 124 = .ok (.ifCond .ne 8, 3) := by decide +kernel
theorem dX12_text_127 : decode cX12_text 127 = .ok (.bipush (-100), 2) := by decide +kernel
theorem dX12_text_129 : decode cX12_text 129 = .ok (.iload_n 2, 1) := by decide +kernel
theorem dX12_text_130 : decode cX12_text 130 = .ok (.isub, 1) := by decide +kernel
theorem dX12_text_131 : decode cX12_text 131 = .ok (.ireturn, 1) := by decide +kernel
theorem dX12_text_132 : decode cX12_text 132 = .ok (.aload_n 0, 1) := by decide +kernel
theorem dX12_text_133 : decode cX12_text 133 = .ok (.dup, 1) := by decide +kernel
theorem dX12_text_134 : decode cX12_text 134 = .ok (.getfield 51, 3) := by decide +kernel
theorem dX12_text_137 : decode cX12_text 137 = .ok (.iconst 1, 1) := by decide +kernel
theorem dX12_text_138 : decode cX12_text 138 = .ok (.iadd, 1) := by decide +kernel
theorem dX12_text_139 : decode cX12_text 139 = .ok (.putfield 51, 3) := by decide +kernel
theorem dX12_text_142 : decode cX12_text 142 = .ok (.aload_n 0, 1) := by decide +kernel
theorem dX12_text_143 : decode cX12_text 143 = .ok (.getfield 51, 3) := by decide +kernel
theorem dX12_text_146 : decode cX12_text 146 = .ok (.iconst 1, 1) := by decide +kernel
theorem dX12_text_147 : decode cX12_text 147 = .ok (.isub, 1) := by decide +kernel
theorem dX12_text_148 : decode cX12_text 148 = .ok (.ireturn, 1) := by decide +kernel
theorem dX12_force_0 : decode cX12_force 0 = .ok (.iload_n 1, 1) := by decide +kernel
theorem dX12_force_1 : decode cX12_force 1 = .ok (.iconst 0, 1) := by decide +kernel
theorem dX12_force_2 : decode cX12_force 2 = .ok (.aload_n 0, 1) := by decide +kernel
theorem dX12_force_3 : decode cX12_force 3 = .ok (.getfield 51, 3) := by decide +kernel
theorem dX12_force_6 : decode cX12_force 6 = .ok (.iconst 1, 1) := by decide +kernel
theorem dX12_force_7 : decode cX12_force 7 = .ok (.isub, 1) := by decide +kernel
theorem dX12_force_8 : decode cX12_force 8 = .ok (.invokestatic 92, 3) := by decide +kernel
theorem dX12_force_11 : decode cX12_force 11 = .ok (.ifCond .ne 6, 3) := by decide +kernel
theorem dX12_force_14 : decode cX12_force 14 = .ok (.bipush (-2), 2) := by decide +kernel
theorem dX12_force_16 : decode cX12_force 16 = .ok (.ireturn, 1) := by decide +kernel
theorem dX12_force_17 : decode cX12_force 17 = .ok (.aload_n 0, 1) := by decide +kernel
theorem dX12_force_18 : decode cX12_force 18 = .ok (.getfield 165, 3) := by decide +kernel
theorem dX12_force_21 : decode cX12_force 21 = .ok (.istore_n 2, 1) := by decide +kernel
theorem dX12_force_22 : decode cX12_force 22 = .ok (.aload_n 0, 1) := by decide +kernel
theorem dX12_force_23 : decode cX12_force 23 = .ok (.iload_n 1, 1) := by decide +kernel
theorem dX12_force_24 : decode cX12_force 24 = .ok (.putfield 165, 3) := by decide +kernel
theorem dX12_force_27 : decode cX12_force 27 = .ok (.iload_n 2, 1) := by decide +kernel
theorem dX12_force_28 : decode cX12_force 28 = .ok (.ireturn, 1) := by decide +kernel
theorem dX12_named_0 : decode cX12_named 0 = .ok (.iload_n 1, 1) := by decide +kernel
theorem dX12_named_1 : decode cX12_named 1 = .ok (.tableswitch 65 0 4 #[35, 42, 49, 56, 58], 35) := by decide +kernel
theorem dX12_named_36 : decode cX12_named 36 = .ok (.aload_n 0, 1) := by decide +kernel
theorem dX12_named_37 : decode cX12_named 37 = .ok (.getfield 16, 3) := by decide +kernel
theorem dX12_named_40 : decode cX12_named 40 = .ok (.iload_n 2, 1) := by decide +kernel
theorem dX12_named_41 : decode cX12_named 41 = .ok (.iaload, 1) := by decide +kernel
theorem dX12_named_42 : decode cX12_named 42 = .ok (.ireturn, 1) := by decide +kernel
theorem dX12_named_43 : decode cX12_named 43 = .ok (.aload_n 0, 1) := by decide +kernel
theorem dX12_named_44 : decode cX12_named 44 = .ok (.getfield 19, 3) := by decide +kernel
theorem dX12_named_47 : decode cX12_named 47 = .ok (.iload_n 2, 1) := by decide +kernel
theorem dX12_named_48 : decode cX12_named 48 = .ok (.iaload, 1) := by decide +kernel
theorem dX12_named_49 : decode cX12_named 49 = .ok (.ireturn, 1) := by decide +kernel
theorem dX12_named_50 : decode cX12_named 50 = .ok (.aload_n 0, 1) := by decide +kernel
theorem dX12_named_51 : decode cX12_named 51 = .ok (.getfield 22, 3) := by decide +kernel
theorem dX12_named_54 : decode cX12_named 54 = .ok (.iload_n 2, 1) := by decide +kernel
theorem dX12_named_55 : decode cX12_named 55 = .ok (.iaload, 1) := by decide +kernel
theorem dX12_named_56 : decode cX12_named 56 = .ok (.ireturn, 1) := by decide +kernel
theorem dX12_named_57 : decode cX12_named 57 = .ok (.iload_n 3, 1) := by decide +kernel
theorem dX12_named_58 : decode cX12_named 58 = .ok (.ireturn, 1) := by decide +kernel
theorem dX12_named_59 : decode cX12_named 59 = .ok (.aload_n 0, 1) := by decide +kernel
theorem dX12_named_60 : decode cX12_named 60 = .ok (.getfield 28, 3) := by decide +kernel
theorem dX12_named_63 : decode cX12_named 63 = .ok (.iconst 5, 1) := by decide +kernel
theorem dX12_named_64 : decode cX12_named 64 = .ok (.iaload, 1) := by decide +kernel
theorem dX12_named_65 : decode cX12_named 65 = .ok (.ireturn, 1) := by decide +kernel
theorem dX12_named_66 : decode cX12_named 66 = .ok (.iload_n 2, 1) := by decide +kernel
theorem dX12_named_67 : decode cX12_named 67 = .ok (.ireturn, 1) := by decide +kernel
theorem dX12_done_0 : decode cX12_done 0 = .ok (.iload_n 0, 1) := by decide +kernel
theorem dX12_done_1 : decode cX12_done 1 = .ok (.tableswitch 87 1 6 #[39, 43, 47, 51, 62, 73], 39) := by decide +kernel
theorem dX12_done_40 : decode cX12_done 40 = .ok (.iload_n 1, 1) := by decide +kernel
theorem dX12_done_41 : decode cX12_done 41 = .ok (.iload_n 2, 1) := by decide +kernel
theorem dX12_done_42 : decode cX12_done 42 = .ok (.iadd, 1) := by decide +kernel
theorem dX12_done_43 : decode cX12_done 43 = .ok (.ireturn, 1) := by decide +kernel
theorem dX12_done_44 : decode cX12_done 44 = .ok (.iload_n 1, 1) := by decide +kernel
theorem dX12_done_45 : decode cX12_done 45 = .ok (.iload_n 2, 1) := by decide +kernel
theorem dX12_done_46 : decode cX12_done 46 = .ok (.isub, 1) := by decide +kernel
theorem dX12_done_47 : decode cX12_done 47 = .ok (.ireturn, 1) := by decide +kernel
theorem dX12_done_48 : decode cX12_done 48 = .ok (.iload_n 1, 1) := by decide +kernel
theorem dX12_done_49 : decode cX12_done 49 = .ok (.iload_n 2, 1) := by decide +kernel
theorem dX12_done_50 : decode cX12_done 50 = .ok (.imul, 1) := by decide +kernel
theorem dX12_done_51 : decode cX12_done 51 = .ok (.ireturn, 1) := by decide +kernel
theorem dX12_done_52 : decode cX12_done 52 = .ok (.iload_n 1, 1) := by decide +kernel
theorem dX12_done_53 : decode cX12_done 53 = .ok (.iload_n 2, 1) := by decide +kernel
theorem dX12_done_54 : decode cX12_done 54 = .ok (.if_icmp .ge 7, 3) := by decide +kernel
theorem dX12_done_57 : decode cX12_done 57 = .ok (.iconst 1, 1) := by decide +kernel
theorem dX12_done_58 : decode cX12_done 58 = .ok (.goto 4, 3) := by decide +kernel
theorem dX12_done_61 : decode cX12_done 61 = .ok (.iconst 0, 1) := by decide +kernel
theorem dX12_done_62 : decode cX12_done 62 = .ok (.ireturn, 1) := by decide +kernel
theorem dX12_done_63 : decode cX12_done 63 = .ok (.iload_n 1, 1) := by decide +kernel
theorem dX12_done_64 : decode cX12_done 64 = .ok (.iload_n 2, 1) := by decide +kernel
theorem dX12_done_65 : decode cX12_done 65 = .ok (.if_icmp .ne 7, 3) := by decide +kernel
theorem dX12_done_68 : decode cX12_done 68 = .ok (.iconst 1, 1) := by decide +kernel
theorem dX12_done_69 : decode cX12_done 69 = .ok (.goto 4, 3) := by decide +kernel
theorem dX12_done_72 : decode cX12_done 72 = .ok (.iconst 0, 1) := by decide +kernel
theorem dX12_done_73 : decode cX12_done 73 = .ok (.ireturn, 1) := by decide +kernel
theorem dX12_done_74 : decode cX12_done 74 = .ok (.iload_n 1, 1) := by decide +kernel
theorem dX12_done_75 : decode cX12_done 75 = .ok (.ifCond .eq 11, 3) := by decide +kernel
theorem dX12_done_78 : decode cX12_done 78 = .ok (.iload_n 2, 1) := by decide +kernel
theorem dX12_done_79 : decode cX12_done 79 = .ok (.ifCond .eq 7, 3) := by decide +kernel
theorem dX12_done_82 : decode cX12_done 82 = .ok (.iconst 1, 1) := by decide +kernel
theorem dX12_done_83 : decode cX12_done 83 = .ok (.goto 4, 3) := by decide +kernel
theorem dX12_done_86 : decode cX12_done 86 = .ok (.iconst 0, 1) := by decide +kernel
theorem dX12_done_87 : decode cX12_done 87 = .ok (.ireturn, 1) := by decide +kernel
theorem dX12_done_88 : decode cX12_done 88 = .ok (.iload_n 1, 1) := by decide +kernel
theorem dX12_done_89 : decode cX12_done 89 = .ok (.ifCond .ne 7, 3) := by decide +kernel
theorem dX12_done_92 : decode cX12_done 92 = .ok (.iload_n 2, 1) := by decide +kernel
theorem dX12_done_93 : decode cX12_done 93 = .ok (.ifCond .eq 7, 3) := by decide +kernel
theorem dX12_done_96 : decode cX12_done 96 = .ok (.iconst 1, 1) := by decide +kernel
theorem dX12_done_97 : decode cX12_done 97 = .ok (.goto 4, 3) := by decide +kernel
theorem dX12_done_100 : decode cX12_done 100 = .ok (.iconst 0, 1) := by decide +kernel
theorem dX12_done_101 : decode cX12_done 101 = .ok (.ireturn, 1) := by decide +kernel
theorem dX12_says_0 : decode cX12_says 0 = .ok (.iconst 3, 1) := by decide +kernel
theorem dX12_says_1 : decode cX12_says 1 = .ok (.aload_n 0, 1) := by decide +kernel
theorem dX12_says_2 : decode cX12_says 2 = .ok (.getfield 165, 3) := by decide +kernel
theorem dX12_says_5 : decode cX12_says 5 = .ok (.imul, 1) := by decide +kernel
theorem dX12_says_6 : decode cX12_says 6 = .ok (.iload_n 1, 1) := by decide +kernel
theorem dX12_says_7 : decode cX12_says 7 = .ok (.iadd, 1) := by decide +kernel
theorem dX12_says_8 : decode cX12_says 8 = .ok (.istore 4, 2) := by decide +kernel
theorem dX12_says_10 : decode cX12_says 10 = .ok (.iconst 0, 1) := by decide +kernel
theorem dX12_says_11 : decode cX12_says 11 = .ok (.istore 5, 2) := by decide +kernel
theorem dX12_says_13 : decode cX12_says 13 = .ok (.iconst 0, 1) := by decide +kernel
theorem dX12_says_14 : decode cX12_says 14 = .ok (.istore 6, 2) := by decide +kernel
theorem dX12_says_16 : decode cX12_says 16 = .ok (.iload 6, 2) := by decide +kernel
theorem dX12_says_18 : decode cX12_says 18 = .ok (.aload_n 0, 1) := by decide +kernel
theorem dX12_says_19 : decode cX12_says 19 = .ok (.getfield 42, 3) := by decide +kernel
theorem dX12_says_22 : decode cX12_says 22 = .ok (.iload 4, 2) := by decide +kernel
theorem dX12_says_24 : decode cX12_says 24 = .ok (.iaload, 1) := by decide +kernel
theorem dX12_says_25 : decode cX12_says 25 = .ok (.if_icmp .ge 185, 3) := by decide +kernel
theorem dX12_says_28 : decode cX12_says 28 = .ok (.aload_n 0, 1) := by decide +kernel
theorem dX12_says_29 : decode cX12_says 29 = .ok (.getfield 39, 3) := by decide +kernel
theorem dX12_says_32 : decode cX12_says 32 = .ok (.sipush 170, 3) := by decide +kernel
theorem dX12_says_35 : decode cX12_says 35 = .ok (.iload 4, 2) := by decide +kernel
theorem dX12_says_37 : decode cX12_says 37 = .ok (.imul, 1) := by decide +kernel
theorem dX12_says_38 : decode cX12_says 38 = .ok (.iload 6, 2) := by decide +kernel
theorem dX12_says_40 : decode cX12_says 40 = .ok (.iadd, 1) := by decide +kernel
theorem dX12_says_41 : decode cX12_says 41 = .ok (.iaload, 1) := by decide +kernel
theorem dX12_says_42 : decode cX12_says 42 = .ok (.istore 7, 2) := by decide +kernel
theorem dX12_says_44 : decode cX12_says 44 = .ok (.iload 7, 2) := by decide +kernel
theorem dX12_says_46 : decode cX12_says 46 = .ok (.sipush 20000, 3) := by decide +kernel
theorem dX12_says_49 : decode cX12_says 49 = .ok (.if_icmp .ge 18, 3) := by decide +kernel
theorem dX12_says_52 : decode cX12_says 52 = .ok (.aload_n 0, 1) := by decide +kernel
theorem dX12_says_53 : decode cX12_says 53 = .ok (.getfield 48, 3) := by decide +kernel
theorem dX12_says_56 : decode cX12_says 56 = .ok (.iload 5, 2) := by decide +kernel
theorem dX12_says_58 : decode cX12_says 58 = .ok (.iload 7, 2) := by decide +kernel
theorem dX12_says_60 : decode cX12_says 60 = .ok (.iastore, 1) := by decide +kernel
theorem dX12_says_61 : decode cX12_says 61 = .ok (.iinc 5 1, 3) := by decide +kernel
theorem dX12_says_64 : decode cX12_says 64 = .ok (.goto 140, 3) := by decide +kernel
theorem dX12_says_67 : decode cX12_says 67 = .ok (.iload 7, 2) := by decide +kernel
theorem dX12_says_69 : decode cX12_says 69 = .ok (.sipush 30000, 3) := by decide +kernel
theorem dX12_says_72 : decode cX12_says 72 = .ok (.if_icmp .ge 28, 3) := by decide +kernel
theorem dX12_says_75 : decode cX12_says 75 = .ok (.aload_n 0, 1) := by decide +kernel
theorem dX12_says_76 : decode cX12_says 76 = .ok (.getfield 48, 3) := by decide +kernel
theorem dX12_says_79 : decode cX12_says 79 = .ok (.iload 5, 2) := by decide +kernel
theorem dX12_says_81 : decode cX12_says 81 = .ok (.aload_n 0, 1) := by decide +kernel
theorem dX12_says_82 : decode cX12_says 82 = .ok (.iload 7, 2) := by decide +kernel
theorem dX12_says_84 : decode cX12_says 84 = .ok (.sipush 20000, 3) := by decide +kernel
theorem dX12_says_87 : decode cX12_says 87 = .ok (.isub, 1) := by decide +kernel
theorem dX12_says_88 : decode cX12_says 88 = .ok (.iload_n 2, 1) := by decide +kernel
theorem dX12_says_89 : decode cX12_says 89 = .ok (.iload_n 3, 1) := by decide +kernel
theorem dX12_says_90 : decode cX12_says 90 = .ok (.invokevirtual 168, 3) := by decide +kernel
theorem dX12_says_93 : decode cX12_says 93 = .ok (.iastore, 1) := by decide +kernel
theorem dX12_says_94 : decode cX12_says 94 = .ok (.iinc 5 1, 3) := by decide +kernel
theorem dX12_says_97 : decode cX12_says 97 = .ok (.goto 107, 3) := by decide +kernel
theorem dX12_says_100 : decode cX12_says 100 = .ok (.iload 7, 2) := by decide +kernel
theorem dX12_says_102 : decode cX12_says 102 = .ok (.sipush 30008, 3) := by decide +kernel
theorem dX12_says_105 : decode cX12_says 105 = .ok (.if_icmp .ne 32, 3) := by decide +kernel
theorem dX12_says_108 : decode cX12_says 108 = .ok (.aload_n 0, 1) := by decide +kernel
theorem dX12_says_109 : decode cX12_says 109 = .ok (.getfield 48, 3) := by decide +kernel
theorem dX12_says_112 : decode cX12_says 112 = .ok (.iload 5, 2) := by decide +kernel
theorem dX12_says_114 : decode cX12_says 114 = .ok (.iconst 1, 1) := by decide +kernel
theorem dX12_says_115 : decode cX12_says 115 = .ok (.isub, 1) := by decide +kernel
theorem dX12_says_116 : decode cX12_says 116 = .ok (.aload_n 0, 1) := by decide +kernel
theorem dX12_says_117 : decode cX12_says 117 = .ok (.getfield 48, 3) := by decide +kernel
theorem dX12_says_120 : decode cX12_says 120 = .ok (.iload 5, 2) := by decide +kernel
theorem dX12_says_122 : decode cX12_says 122 = .ok (.iconst 1, 1) := by decide +kernel
theorem dX12_says_123 : decode cX12_says 123 = .ok (.isub, 1) := by decide +kernel
theorem dX12_says_124 : decode cX12_says 124 = .ok (.iaload, 1) := by decide +kernel
theorem dX12_says_125 : decode cX12_says 125 = .ok (.ifCond .ne 7, 3) := by decide +kernel
theorem dX12_says_128 : decode cX12_says 128 = .ok (.iconst 1, 1) := by decide +kernel
theorem dX12_says_129 : decode cX12_says 129 = .ok (.goto 4, 3) := by decide +kernel
theorem dX12_says_132 : decode cX12_says 132 = .ok (.iconst 0, 1) := by decide +kernel
theorem dX12_says_133 : decode cX12_says 133 = .ok (.iastore, 1) := by decide +kernel
theorem dX12_says_134 : decode cX12_says 134 = .ok (.goto 70, 3) := by decide +kernel
theorem dX12_says_137 : decode cX12_says 137 = .ok (.iload 7, 2) := by decide +kernel
theorem dX12_says_139 : decode cX12_says 139 = .ok (.sipush 30009, 3) := by decide +kernel
theorem dX12_says_142 : decode cX12_says 142 = .ok (.if_icmp .ne 25, 3) := by decide +kernel
theorem dX12_says_145 : decode cX12_says 145 = .ok (.aload_n 0, 1) := by decide +kernel
theorem dX12_says_146 : decode cX12_says 146 = .ok (.getfield 48, 3) := by decide +kernel
theorem dX12_says_149 : decode cX12_says 149 = .ok (.iload 5, 2) := by decide +kernel
theorem dX12_says_151 : decode cX12_says 151 = .ok (.iconst 1, 1) := by decide +kernel
theorem dX12_says_152 : decode cX12_says 152 = .ok (.isub, 1) := by decide +kernel
theorem dX12_says_153 : decode cX12_says 153 = .ok (.aload_n 0, 1) := by decide +kernel
theorem dX12_says_154 : decode cX12_says 154 = .ok (.getfield 48, 3) := by decide +kernel
theorem dX12_says_157 : decode cX12_says 157 = .ok (.iload 5, 2) := by decide +kernel
theorem dX12_says_159 : decode cX12_says 159 = .ok (.iconst 1, 1) := by decide +kernel
theorem dX12_says_160 : decode cX12_says 160 = .ok (.isub, 1) := by decide +kernel
theorem dX12_says_161 : decode cX12_says 161 = .ok (.iaload, 1) := by decide +kernel
theorem dX12_says_162 : decode cX12_says 162 = .ok (.ineg, 1) := by decide +kernel
theorem dX12_says_163 : decode cX12_says 163 = .ok (.iastore, 1) := by decide +kernel
theorem dX12_says_164 : decode cX12_says 164 = .ok (.goto 40, 3) := by decide +kernel
theorem dX12_says_167 : decode cX12_says 167 = .ok (.iinc 5 (-1), 3) := by decide +kernel
theorem dX12_says_170 : decode cX12_says 170 = .ok (.aload_n 0, 1) := by decide +kernel
theorem dX12_says_171 : decode cX12_says 171 = .ok (.getfield 48, 3) := by decide +kernel
theorem dX12_says_174 : decode cX12_says 174 = .ok (.iload 5, 2) := by decide +kernel
theorem dX12_says_176 : decode cX12_says 176 = .ok (.iconst 1, 1) := by decide +kernel
theorem dX12_says_177 : decode cX12_says 177 = .ok (.isub, 1) := by decide +kernel
theorem dX12_says_178 : decode cX12_says 178 = .ok (.iload 7, 2) := by decide +kernel
theorem dX12_says_180 : decode cX12_says 180 = .ok (.sipush 30000, 3) := by decide +kernel
theorem dX12_says_183 : decode cX12_says 183 = .ok (.isub, 1) := by decide +kernel
theorem dX12_says_184 : decode cX12_says 184 = .ok (.aload_n 0, 1) := by decide +kernel
theorem dX12_says_185 : decode cX12_says 185 = .ok (.getfield 48, 3) := by decide +kernel
theorem dX12_says_188 : decode cX12_says 188 = .ok (.iload 5, 2) := by decide +kernel
theorem dX12_says_190 : decode cX12_says 190 = .ok (.iconst 1, 1) := by decide +kernel
theorem dX12_says_191 : decode cX12_says 191 = .ok (.isub, 1) := by decide +kernel
theorem dX12_says_192 : decode cX12_says 192 = .ok (.iaload, 1) := by decide +kernel
theorem dX12_says_193 : decode cX12_says 193 = .ok (.aload_n 0, 1) := by decide +kernel
theorem dX12_says_194 : decode cX12_says 194 = .ok (.getfield 48, 3) := by decide +kernel
theorem dX12_says_197 : decode cX12_says 197 = .ok (.iload 5, 2) := by decide +kernel
theorem dX12_says_199 : decode cX12_says 199 = .ok (.iaload, 1) := by decide +kernel
theorem dX12_says_200 : decode cX12_says 200 = .ok (.invokestatic 172, 3) := by decide +kernel
theorem dX12_says_203 : decode cX12_says 203 = .ok (.iastore, 1) := by decide +kernel
theorem dX12_says_204 : decode cX12_says 204 = .ok (.iinc 6 1, 3) := by decide +kernel
theorem dX12_says_207 : decode cX12_says 207 = .ok (.goto (-191), 3) := by decide +kernel
theorem dX12_says_210 : decode cX12_says 210 = .ok (.aload_n 0, 1) := by decide +kernel
theorem dX12_says_211 : decode cX12_says 211 = .ok (.getfield 48, 3) := by decide +kernel
theorem dX12_says_214 : decode cX12_says 214 = .ok (.iconst 0, 1) := by decide +kernel
theorem dX12_says_215 : decode cX12_says 215 = .ok (.iaload, 1) := by decide +kernel
theorem dX12_says_216 : decode cX12_says 216 = .ok (.ireturn, 1) := by decide +kernel
theorem dX12_bounded_0 : decode cX12_bounded 0 = .ok (.iload_n 0, 1) := by decide +kernel
theorem dX12_bounded_1 : decode cX12_bounded 1 = .ok (.iload_n 1, 1) := by decide +kernel
theorem dX12_bounded_2 : decode cX12_bounded 2 = .ok (.if_icmp .ge 7, 3) := by decide +kernel
theorem dX12_bounded_5 : decode cX12_bounded 5 = .ok (.iload_n 1, 1) := by decide +kernel
theorem dX12_bounded_6 : decode cX12_bounded 6 = .ok (.goto 13, 3) := by decide +kernel
theorem dX12_bounded_9 : decode cX12_bounded 9 = .ok (.iload_n 0, 1) := by decide +kernel
theorem dX12_bounded_10 : decode cX12_bounded 10 = .ok (.iload_n 2, 1) := by decide +kernel
theorem dX12_bounded_11 : decode cX12_bounded 11 = .ok (.if_icmp .le 7, 3) := by decide +kernel
theorem dX12_bounded_14 : decode cX12_bounded 14 = .ok (.iload_n 2, 1) := by decide +kernel
theorem dX12_bounded_15 : decode cX12_bounded 15 = .ok (.goto 4, 3) := by decide +kernel
theorem dX12_bounded_18 : decode cX12_bounded 18 = .ok (.iload_n 0, 1) := by decide +kernel
theorem dX12_bounded_19 : decode cX12_bounded 19 = .ok (.ireturn, 1) := by decide +kernel
theorem dX12_byOf_0 : decode cX12_byOf 0 = .ok (.aload_n 0, 1) := by decide +kernel
theorem dX12_byOf_1 : decode cX12_byOf 1 = .ok (.iconst 0, 1) := by decide +kernel
theorem dX12_byOf_2 : decode cX12_byOf 2 = .ok (.iload_n 1, 1) := by decide +kernel
theorem dX12_byOf_3 : decode cX12_byOf 3 = .ok (.iconst 0, 1) := by decide +kernel
theorem dX12_byOf_4 : decode cX12_byOf 4 = .ok (.invokevirtual 175, 3) := by decide +kernel
theorem dX12_byOf_7 : decode cX12_byOf 7 = .ok (.iconst 0, 1) := by decide +kernel
theorem dX12_byOf_8 : decode cX12_byOf 8 = .ok (.sipush 999, 3) := by decide +kernel
theorem dX12_byOf_11 : decode cX12_byOf 11 = .ok (.invokestatic 178, 3) := by decide +kernel
theorem dX12_byOf_14 : decode cX12_byOf 14 = .ok (.ireturn, 1) := by decide +kernel
theorem dX12_thickOf_0 : decode cX12_thickOf 0 = .ok (.aload_n 0, 1) := by decide +kernel
theorem dX12_thickOf_1 : decode cX12_thickOf 1 = .ok (.getfield 28, 3) := by decide +kernel
theorem dX12_thickOf_4 : decode cX12_thickOf 4 = .ok (.bipush 6, 2) := by decide +kernel
theorem dX12_thickOf_6 : decode cX12_thickOf 6 = .ok (.aload_n 0, 1) := by decide +kernel
theorem dX12_thickOf_7 : decode cX12_thickOf 7 = .ok (.getfield 22, 3) := by decide +kernel
theorem dX12_thickOf_10 : decode cX12_thickOf 10 = .ok (.iload_n 1, 1) := by decide +kernel
theorem dX12_thickOf_11 : decode cX12_thickOf 11 = .ok (.iaload, 1) := by decide +kernel
theorem dX12_thickOf_12 : decode cX12_thickOf 12 = .ok (.iadd, 1) := by decide +kernel
theorem dX12_thickOf_13 : decode cX12_thickOf 13 = .ok (.iaload, 1) := by decide +kernel
theorem dX12_thickOf_14 : decode cX12_thickOf 14 = .ok (.ireturn, 1) := by decide +kernel
theorem dX12_takesOf_0 : decode cX12_takesOf 0 = .ok (.iconst 1, 1) := by decide +kernel
theorem dX12_takesOf_1 : decode cX12_takesOf 1 = .ok (.aload_n 0, 1) := by decide +kernel
theorem dX12_takesOf_2 : decode cX12_takesOf 2 = .ok (.getfield 13, 3) := by decide +kernel
theorem dX12_takesOf_5 : decode cX12_takesOf 5 = .ok (.iload_n 1, 1) := by decide +kernel
theorem dX12_takesOf_6 : decode cX12_takesOf 6 = .ok (.iaload, 1) := by decide +kernel
theorem dX12_takesOf_7 : decode cX12_takesOf 7 = .ok (.iadd, 1) := by decide +kernel
theorem dX12_takesOf_8 : decode cX12_takesOf 8 = .ok (.istore_n 2, 1) := by decide +kernel
theorem dX12_takesOf_9 : decode cX12_takesOf 9 = .ok (.iconst 1, 1) := by decide +kernel
theorem dX12_takesOf_10 : decode cX12_takesOf 10 = .ok (.aload_n 0, 1) := by decide +kernel
theorem dX12_takesOf_11 : decode cX12_takesOf 11 = .ok (.getfield 13, 3) := by decide +kernel
theorem dX12_takesOf_14 : decode cX12_takesOf 14 = .ok (.iload_n 1, 1) := by decide +kernel
theorem dX12_takesOf_15 : decode cX12_takesOf 15 = .ok (.iaload, 1) := by decide +kernel
theorem dX12_takesOf_16 : decode cX12_takesOf 16 = .ok (.iconst 2, 1) := by decide +kernel
theorem dX12_takesOf_17 : decode cX12_takesOf 17 = .ok (.irem, 1) := by decide +kernel
theorem dX12_takesOf_18 : decode cX12_takesOf 18 = .ok (.iconst 1, 1) := by decide +kernel
theorem dX12_takesOf_19 : decode cX12_takesOf 19 = .ok (.if_icmp .ne 7, 3) := by decide +kernel
theorem dX12_takesOf_22 : decode cX12_takesOf 22 = .ok (.iconst 3, 1) := by decide +kernel
theorem dX12_takesOf_23 : decode cX12_takesOf 23 = .ok (.goto 4, 3) := by decide +kernel
theorem dX12_takesOf_26 : decode cX12_takesOf 26 = .ok (.iconst 0, 1) := by decide +kernel
theorem dX12_takesOf_27 : decode cX12_takesOf 27 = .ok (.iadd, 1) := by decide +kernel
theorem dX12_takesOf_28 : decode cX12_takesOf 28 = .ok (.istore_n 3, 1) := by decide +kernel
theorem dX12_takesOf_29 : decode cX12_takesOf 29 = .ok (.aload_n 0, 1) := by decide +kernel
theorem dX12_takesOf_30 : decode cX12_takesOf 30 = .ok (.getfield 7, 3) := by decide +kernel
theorem dX12_takesOf_33 : decode cX12_takesOf 33 = .ok (.iload_n 1, 1) := by decide +kernel
theorem dX12_takesOf_34 : decode cX12_takesOf 34 = .ok (.iaload, 1) := by decide +kernel
theorem dX12_takesOf_35 : decode cX12_takesOf 35 = .ok (.tableswitch 66 1 5 #[33, 35, 37, 45, 49], 33) := by decide +kernel
theorem dX12_takesOf_68 : decode cX12_takesOf 68 = .ok (.iload_n 2, 1) := by decide +kernel
theorem dX12_takesOf_69 : decode cX12_takesOf 69 = .ok (.ireturn, 1) := by decide +kernel
theorem dX12_takesOf_70 : decode cX12_takesOf 70 = .ok (.iload_n 3, 1) := by decide +kernel
theorem dX12_takesOf_71 : decode cX12_takesOf 71 = .ok (.ireturn, 1) := by decide +kernel
theorem dX12_takesOf_72 : decode cX12_takesOf 72 = .ok (.iload_n 2, 1) := by decide +kernel
theorem dX12_takesOf_73 : decode cX12_takesOf 73 = .ok (.aload_n 0, 1) := by decide +kernel
theorem dX12_takesOf_74 : decode cX12_takesOf 74 = .ok (.iload_n 1, 1) := by decide +kernel
theorem dX12_takesOf_75 : decode cX12_takesOf 75 = .ok (.invokevirtual 181, 3) := by decide +kernel
theorem dX12_takesOf_78 : decode cX12_takesOf 78 = .ok (.iadd, 1) := by decide +kernel
theorem dX12_takesOf_79 : decode cX12_takesOf 79 = .ok (.ireturn, 1) := by decide +kernel
theorem dX12_takesOf_80 : decode cX12_takesOf 80 = .ok (.iconst 2, 1) := by decide +kernel
theorem dX12_takesOf_81 : decode cX12_takesOf 81 = .ok (.iload_n 3, 1) := by decide +kernel
theorem dX12_takesOf_82 : decode cX12_takesOf 82 = .ok (.imul, 1) := by decide +kernel
theorem dX12_takesOf_83 : decode cX12_takesOf 83 = .ok (.ireturn, 1) := by decide +kernel
theorem dX12_takesOf_84 : decode cX12_takesOf 84 = .ok (.iload_n 2, 1) := by decide +kernel
theorem dX12_takesOf_85 : decode cX12_takesOf 85 = .ok (.aload_n 0, 1) := by decide +kernel
theorem dX12_takesOf_86 : decode cX12_takesOf 86 = .ok (.getfield 28, 3) := by decide +kernel
theorem dX12_takesOf_89 : decode cX12_takesOf 89 = .ok (.iconst 5, 1) := by decide +kernel
theorem dX12_takesOf_90 : decode cX12_takesOf 90 = .ok (.iaload, 1) := by decide +kernel
theorem dX12_takesOf_91 : decode cX12_takesOf 91 = .ok (.ifCond .le 7, 3) := by decide +kernel
theorem dX12_takesOf_94 : decode cX12_takesOf 94 = .ok (.iconst 1, 1) := by decide +kernel
theorem dX12_takesOf_95 : decode cX12_takesOf 95 = .ok (.goto 4, 3) := by decide +kernel
theorem dX12_takesOf_98 : decode cX12_takesOf 98 = .ok (.iconst 0, 1) := by decide +kernel
theorem dX12_takesOf_99 : decode cX12_takesOf 99 = .ok (.iadd, 1) := by decide +kernel
theorem dX12_takesOf_100 : decode cX12_takesOf 100 = .ok (.ireturn, 1) := by decide +kernel
theorem dX12_takesOf_101 : decode cX12_takesOf 101 = .ok (.iconst 1, 1) := by decide +kernel
theorem dX12_takesOf_102 : decode cX12_takesOf 102 = .ok (.ireturn, 1) := by decide +kernel
theorem dX12_tipsOf_0 : decode cX12_tipsOf 0 = .ok (.aload_n 0, 1) := by decide +kernel
theorem dX12_tipsOf_1 : decode cX12_tipsOf 1 = .ok (.iconst 2, 1) := by decide +kernel
theorem dX12_tipsOf_2 : decode cX12_tipsOf 2 = .ok (.iload_n 1, 1) := by decide +kernel
theorem dX12_tipsOf_3 : decode cX12_tipsOf 3 = .ok (.iload_n 2, 1) := by decide +kernel
theorem dX12_tipsOf_4 : decode cX12_tipsOf 4 = .ok (.invokevirtual 175, 3) := by decide +kernel
theorem dX12_tipsOf_7 : decode cX12_tipsOf 7 = .ok (.iconst 0, 1) := by decide +kernel
theorem dX12_tipsOf_8 : decode cX12_tipsOf 8 = .ok (.bipush 99, 2) := by decide +kernel
theorem dX12_tipsOf_10 : decode cX12_tipsOf 10 = .ok (.invokestatic 178, 3) := by decide +kernel
theorem dX12_tipsOf_13 : decode cX12_tipsOf 13 = .ok (.iload_n 2, 1) := by decide +kernel
theorem dX12_tipsOf_14 : decode cX12_tipsOf 14 = .ok (.isub, 1) := by decide +kernel
theorem dX12_tipsOf_15 : decode cX12_tipsOf 15 = .ok (.istore_n 3, 1) := by decide +kernel
theorem dX12_tipsOf_16 : decode cX12_tipsOf 16 = .ok (.iload_n 3, 1) := by decide +kernel
theorem dX12_tipsOf_17 : decode cX12_tipsOf 17 = .ok (.istore 4, 2) := by decide +kernel
theorem dX12_tipsOf_19 : decode cX12_tipsOf 19 = .ok (.aload_n 0, 1) := by decide +kernel
theorem dX12_tipsOf_20 : decode cX12_tipsOf 20 = .ok (.getfield 7, 3) := by decide +kernel
theorem dX12_tipsOf_23 : decode cX12_tipsOf 23 = .ok (.iload_n 1, 1) := by decide +kernel
theorem dX12_tipsOf_24 : decode cX12_tipsOf 24 = .ok (.iaload, 1) := by decide +kernel
theorem dX12_tipsOf_25 : decode cX12_tipsOf 25 = .ok (.tableswitch 83 2 5 #[31, 39, 52, 70], 31) := by decide +kernel
theorem dX12_tipsOf_56 : decode cX12_tipsOf 56 = .ok (.iload_n 3, 1) := by decide +kernel
theorem dX12_tipsOf_57 : decode cX12_tipsOf 57 = .ok (.iconst 2, 1) := by decide +kernel
theorem dX12_tipsOf_58 : decode cX12_tipsOf 58 = .ok (.idiv, 1) := by decide +kernel
theorem dX12_tipsOf_59 : decode cX12_tipsOf 59 = .ok (.istore 4, 2) := by decide +kernel
theorem dX12_tipsOf_61 : decode cX12_tipsOf 61 = .ok (.goto 47, 3) := by decide +kernel
theorem dX12_tipsOf_64 : decode cX12_tipsOf 64 = .ok (.iload_n 3, 1) := by decide +kernel
theorem dX12_tipsOf_65 : decode cX12_tipsOf 65 = .ok (.aload_n 0, 1) := by decide +kernel
theorem dX12_tipsOf_66 : decode cX12_tipsOf 66 = .ok (.getfield 13, 3) := by decide +kernel
theorem dX12_tipsOf_69 : decode cX12_tipsOf 69 = .ok (.iload_n 1, 1) := by decide +kernel
theorem dX12_tipsOf_70 : decode cX12_tipsOf 70 = .ok (.iaload, 1) := by decide +kernel
theorem dX12_tipsOf_71 : decode cX12_tipsOf 71 = .ok (.iadd, 1) := by decide +kernel
theorem dX12_tipsOf_72 : decode cX12_tipsOf 72 = .ok (.istore 4, 2) := by decide +kernel
theorem dX12_tipsOf_74 : decode cX12_tipsOf 74 = .ok (.goto 34, 3) := by decide +kernel
theorem dX12_tipsOf_77 : decode cX12_tipsOf 77 = .ok (.iload_n 3, 1) := by decide +kernel
theorem dX12_tipsOf_78 : decode cX12_tipsOf 78 = .ok (.iconst 2, 1) := by decide +kernel
theorem dX12_tipsOf_79 : decode cX12_tipsOf 79 = .ok (.idiv, 1) := by decide +kernel
theorem dX12_tipsOf_80 : decode cX12_tipsOf 80 = .ok (.iload_n 2, 1) := by decide +kernel
theorem dX12_tipsOf_81 : decode cX12_tipsOf 81 = .ok (.ifCond .ne 7, 3) := by decide +kernel
theorem dX12_tipsOf_84 : decode cX12_tipsOf 84 = .ok (.iconst 2, 1) := by decide +kernel
theorem dX12_tipsOf_85 : decode cX12_tipsOf 85 = .ok (.goto 4, 3) := by decide +kernel
theorem dX12_tipsOf_88 : decode cX12_tipsOf 88 = .ok (.iconst 0, 1) := by decide +kernel
theorem dX12_tipsOf_89 : decode cX12_tipsOf 89 = .ok (.iadd, 1) := by decide +kernel
theorem dX12_tipsOf_90 : decode cX12_tipsOf 90 = .ok (.istore 4, 2) := by decide +kernel
theorem dX12_tipsOf_92 : decode cX12_tipsOf 92 = .ok (.goto 16, 3) := by decide +kernel
theorem dX12_tipsOf_95 : decode cX12_tipsOf 95 = .ok (.iload_n 3, 1) := by decide +kernel
theorem dX12_tipsOf_96 : decode cX12_tipsOf 96 = .ok (.aload_n 0, 1) := by decide +kernel
theorem dX12_tipsOf_97 : decode cX12_tipsOf 97 = .ok (.getfield 28, 3) := by decide +kernel
theorem dX12_tipsOf_100 : decode cX12_tipsOf 100 = .ok (.iconst 5, 1) := by decide +kernel
theorem dX12_tipsOf_101 : decode cX12_tipsOf 101 = .ok (.iaload, 1) := by decide +kernel
theorem dX12_tipsOf_102 : decode cX12_tipsOf 102 = .ok (.isub, 1) := by decide +kernel
theorem dX12_tipsOf_103 : decode cX12_tipsOf 103 = .ok (.istore 4, 2) := by decide +kernel
theorem dX12_tipsOf_105 : decode cX12_tipsOf 105 = .ok (.goto 3, 3) := by decide +kernel
theorem dX12_tipsOf_108 : decode cX12_tipsOf 108 = .ok (.iload 4, 2) := by decide +kernel
theorem dX12_tipsOf_110 : decode cX12_tipsOf 110 = .ok (.ifCond .ge 7, 3) := by decide +kernel
theorem dX12_tipsOf_113 : decode cX12_tipsOf 113 = .ok (.iconst 0, 1) := by decide +kernel
theorem dX12_tipsOf_114 : decode cX12_tipsOf 114 = .ok (.goto 5, 3) := by decide +kernel
theorem dX12_tipsOf_117 : decode cX12_tipsOf 117 = .ok (.iload 4, 2) := by decide +kernel
theorem dX12_tipsOf_119 : decode cX12_tipsOf 119 = .ok (.ireturn, 1) := by decide +kernel
theorem dX12_comes_0 : decode cX12_comes 0 = .ok (.iload_n 1, 1) := by decide +kernel
theorem dX12_comes_1 : decode cX12_comes 1 = .ok (.iconst 0, 1) := by decide +kernel
theorem dX12_comes_2 : decode cX12_comes 2 = .ok (.iconst 5, 1) := by decide +kernel
theorem dX12_comes_3 : decode cX12_comes 3 = .ok (.invokestatic 92, 3) := by decide +kernel
theorem dX12_comes_6 : decode cX12_comes 6 = .ok (.ifCond .eq 40, 3) := by decide +kernel
theorem dX12_comes_9 : decode cX12_comes 9 = .ok (.iload_n 2, 1) := by decide +kernel
theorem dX12_comes_10 : decode cX12_comes 10 = .ok (.iconst 0, 1) := by decide +kernel
theorem dX12_comes_11 : decode cX12_comes 11 = .ok (.bipush 99, 2) := by decide +kernel
theorem dX12_comes_13 : decode cX12_comes 13 = .ok (.invokestatic 92, 3) := by decide +kernel
theorem dX12_comes_16 : decode cX12_comes 16 = .ok (.ifCond .eq 30, 3) := by decide +kernel
theorem dX12_comes_19 : decode cX12_comes 19 = .ok (.iload_n 2, 1) := by decide +kernel
theorem dX12_comes_20 : decode cX12_comes 20 = .ok (.bipush 10, 2) := by decide +kernel
theorem dX12_comes_22 : decode cX12_comes 22 = .ok (.irem, 1) := by decide +kernel
theorem dX12_comes_23 : decode cX12_comes 23 = .ok (.iconst 3, 1) := by decide +kernel
theorem dX12_comes_24 : decode cX12_comes 24 = .ok (.if_icmp .gt 22, 3) := by decide +kernel
theorem dX12_comes_27 : decode cX12_comes 27 = .ok (.iload_n 3, 1) := by decide +kernel
theorem dX12_comes_28 : decode cX12_comes 28 = .ok (.iconst 0, 1) := by decide +kernel
theorem dX12_comes_29 : decode cX12_comes 29 = .ok (.sipush 999, 3) := by decide +kernel
theorem dX12_comes_32 : decode cX12_comes 32 = .ok (.invokestatic 92, 3) := by decide +kernel
theorem dX12_comes_35 : decode cX12_comes 35 = .ok (.ifCond .eq 11, 3) := by decide +kernel
theorem dX12_comes_38 : decode cX12_comes 38 = .ok (.iload_n 3, 1) := by decide +kernel
theorem dX12_comes_39 : decode cX12_comes 39 = .ok (.bipush 10, 2) := by decide +kernel
theorem dX12_comes_41 : decode cX12_comes 41 = .ok (.irem, 1) := by decide +kernel
theorem dX12_comes_42 : decode cX12_comes 42 = .ok (.iconst 1, 1) := by decide +kernel
theorem dX12_comes_43 : decode cX12_comes 43 = .ok (.if_icmp .le 6, 3) := by decide +kernel
theorem dX12_comes_46 : decode cX12_comes 46 = .ok (.bipush (-2), 2) := by decide +kernel
theorem dX12_comes_48 : decode cX12_comes 48 = .ok (.ireturn, 1) := by decide +kernel
theorem dX12_comes_49 : decode cX12_comes 49 = .ok (.aload_n 0, 1) := by decide +kernel
theorem dX12_comes_50 : decode cX12_comes 50 = .ok (.getfield 82, 3) := by decide +kernel
theorem dX12_comes_53 : decode cX12_comes 53 = .ok (.bipush 7, 2) := by decide +kernel
theorem dX12_comes_55 : decode cX12_comes 55 = .ok (.if_icmp .ne 6, 3) := by decide +kernel
theorem dX12_comes_58 : decode cX12_comes 58 = .ok (.bipush (-4), 2) := by decide +kernel
theorem dX12_comes_60 : decode cX12_comes 60 = .ok (.ireturn, 1) := by decide +kernel
theorem dX12_comes_61 : decode cX12_comes 61 = .ok (.aload_n 0, 1) := by decide +kernel
theorem dX12_comes_62 : decode cX12_comes 62 = .ok (.getfield 7, 3) := by decide +kernel
theorem dX12_comes_65 : decode cX12_comes 65 = .ok (.aload_n 0, 1) := by decide +kernel
theorem dX12_comes_66 : decode cX12_comes 66 = .ok (.getfield 82, 3) := by decide +kernel
theorem dX12_comes_69 : decode cX12_comes 69 = .ok (.iload_n 1, 1) := by decide +kernel
theorem dX12_comes_70 : decode cX12_comes 70 = .ok (.iastore, 1) := by decide +kernel
theorem dX12_comes_71 : decode cX12_comes 71 = .ok (.aload_n 0, 1) := by decide +kernel
theorem dX12_comes_72 : decode cX12_comes 72 = .ok (.getfield 13, 3) := by decide +kernel
theorem dX12_comes_75 : decode cX12_comes 75 = .ok (.aload_n 0, 1) := by decide +kernel
theorem dX12_comes_76 : decode cX12_comes 76 = .ok (.getfield 82, 3) := by decide +kernel
theorem dX12_comes_79 : decode cX12_comes 79 = .ok (.iload_n 2, 1) := by decide +kernel
theorem dX12_comes_80 : decode cX12_comes 80 = .ok (.bipush 10, 2) := by decide +kernel
theorem dX12_comes_82 : decode cX12_comes 82 = .ok (.idiv, 1) := by decide +kernel
theorem dX12_comes_83 : decode cX12_comes 83 = .ok (.iastore, 1) := by decide +kernel
theorem dX12_comes_84 : decode cX12_comes 84 = .ok (.aload_n 0, 1) := by decide +kernel
theorem dX12_comes_85 : decode cX12_comes 85 = .ok (.getfield 22, 3) := by decide +kernel
theorem dX12_comes_88 : decode cX12_comes 88 = .ok (.aload_n 0, 1) := by decide +kernel
theorem dX12_comes_89 : decode cX12_comes 89 = .ok (.getfield 82, 3) := by decide +kernel
theorem dX12_comes_92 : decode cX12_comes 92 = .ok (.iload_n 2, 1) := by decide +kernel
theorem dX12_comes_93 : decode cX12_comes 93 = .ok (.bipush 10, 2) := by decide +kernel
theorem dX12_comes_95 : decode cX12_comes 95 = .ok (.irem, 1) := by decide +kernel
theorem dX12_comes_96 : decode cX12_comes 96 = .ok (.iastore, 1) := by decide +kernel
theorem dX12_comes_97 : decode cX12_comes 97 = .ok (.aload_n 0, 1) := by decide +kernel
theorem dX12_comes_98 : decode cX12_comes 98 = .ok (.getfield 16, 3) := by decide +kernel
theorem dX12_comes_101 : decode cX12_comes 101 = .ok (.aload_n 0, 1) := by decide +kernel
theorem dX12_comes_102 : decode cX12_comes 102 = .ok (.getfield 82, 3) := by decide +kernel
theorem dX12_comes_105 : decode cX12_comes 105 = .ok (.iload_n 3, 1) := by decide +kernel
theorem dX12_comes_106 : decode cX12_comes 106 = .ok (.bipush 10, 2) := by decide +kernel
theorem dX12_comes_108 : decode cX12_comes 108 = .ok (.idiv, 1) := by decide +kernel
theorem dX12_comes_109 : decode cX12_comes 109 = .ok (.iastore, 1) := by decide +kernel
theorem dX12_comes_110 : decode cX12_comes 110 = .ok (.aload_n 0, 1) := by decide +kernel
theorem dX12_comes_111 : decode cX12_comes 111 = .ok (.getfield 19, 3) := by decide +kernel
theorem dX12_comes_114 : decode cX12_comes 114 = .ok (.aload_n 0, 1) := by decide +kernel
theorem dX12_comes_115 : decode cX12_comes 115 = .ok (.getfield 82, 3) := by decide +kernel
theorem dX12_comes_118 : decode cX12_comes 118 = .ok (.iload_n 3, 1) := by decide +kernel
theorem dX12_comes_119 : decode cX12_comes 119 = .ok (.bipush 10, 2) := by decide +kernel
theorem dX12_comes_121 : decode cX12_comes 121 = .ok (.irem, 1) := by decide +kernel
theorem dX12_comes_122 : decode cX12_comes 122 = .ok (.iastore, 1) := by decide +kernel
theorem dX12_comes_123 : decode cX12_comes 123 = .ok (.aload_n 0, 1) := by decide +kernel
theorem dX12_comes_124 : decode cX12_comes 124 = .ok (.getfield 25, 3) := by decide +kernel
theorem dX12_comes_127 : decode cX12_comes 127 = .ok (.aload_n 0, 1) := by decide +kernel
theorem dX12_comes_128 : decode cX12_comes 128 = .ok (.getfield 82, 3) := by decide +kernel
theorem dX12_comes_131 : decode cX12_comes 131 = .ok (.aload_n 0, 1) := by decide +kernel
theorem dX12_comes_132 : decode cX12_comes 132 = .ok (.getfield 82, 3) := by decide +kernel
theorem dX12_comes_135 : decode cX12_comes 135 = .ok (.iastore, 1) := by decide +kernel
theorem dX12_comes_136 : decode cX12_comes 136 = .ok (.aload_n 0, 1) := by decide +kernel
theorem dX12_comes_137 : decode cX12_comes 137 = .ok (.dup, 1) := by decide +kernel
theorem dX12_comes_138 : decode cX12_comes 138 = .ok (.getfield 82, 3) := by decide +kernel
theorem dX12_comes_141 : decode cX12_comes 141 = .ok (.iconst 1, 1) := by decide +kernel
theorem dX12_comes_142 : decode cX12_comes 142 = .ok (.iadd, 1) := by decide +kernel
theorem dX12_comes_143 : decode cX12_comes 143 = .ok (.putfield 82, 3) := by decide +kernel
theorem dX12_comes_146 : decode cX12_comes 146 = .ok (.aload_n 0, 1) := by decide +kernel
theorem dX12_comes_147 : decode cX12_comes 147 = .ok (.getfield 82, 3) := by decide +kernel
theorem dX12_comes_150 : decode cX12_comes 150 = .ok (.iconst 1, 1) := by decide +kernel
theorem dX12_comes_151 : decode cX12_comes 151 = .ok (.isub, 1) := by decide +kernel
theorem dX12_comes_152 : decode cX12_comes 152 = .ok (.ireturn, 1) := by decide +kernel
theorem dX12_house_0 : decode cX12_house 0 = .ok (.aload_n 0, 1) := by decide +kernel
theorem dX12_house_1 : decode cX12_house 1 = .ok (.iload_n 1, 1) := by decide +kernel
theorem dX12_house_2 : decode cX12_house 2 = .ok (.iload_n 2, 1) := by decide +kernel
theorem dX12_house_3 : decode cX12_house 3 = .ok (.iload_n 3, 1) := by decide +kernel
theorem dX12_house_4 : decode cX12_house 4 = .ok (.invokevirtual 184, 3) := by decide +kernel
theorem dX12_house_7 : decode cX12_house 7 = .ok (.ireturn, 1) := by decide +kernel
theorem dX12_set_0 : decode cX12_set 0 = .ok (.aload_n 0, 1) := by decide +kernel
theorem dX12_set_1 : decode cX12_set 1 = .ok (.iload_n 1, 1) := by decide +kernel
theorem dX12_set_2 : decode cX12_set 2 = .ok (.invokevirtual 187, 3) := by decide +kernel
theorem dX12_set_5 : decode cX12_set 5 = .ok (.ifCond .eq 12, 3) := by decide +kernel
theorem dX12_set_8 : decode cX12_set 8 = .ok (.iload_n 2, 1) := by decide +kernel
theorem dX12_set_9 : decode cX12_set 9 = .ok (.iconst 0, 1) := by decide +kernel
theorem dX12_set_10 : decode cX12_set 10 = .ok (.iconst 3, 1) := by decide +kernel
theorem dX12_set_11 : decode cX12_set 11 = .ok (.invokestatic 92, 3) := by decide +kernel
theorem dX12_set_14 : decode cX12_set 14 = .ok (.ifCond .ne 6, 3) := by decide +kernel
theorem dX12_set_17 : decode cX12_set 17 = .ok (.bipush (-2), 2) := by decide +kernel
theorem dX12_set_19 : decode cX12_set 19 = .ok (.ireturn, 1) := by decide +kernel
theorem dX12_set_20 : decode cX12_set 20 = .ok (.iload_n 3, 1) := by decide +kernel
theorem dX12_set_21 : decode cX12_set 21 = .ok (.iconst 0, 1) := by decide +kernel
theorem dX12_set_22 : decode cX12_set 22 = .ok (.iload_n 2, 1) := by decide +kernel
theorem dX12_set_23 : decode cX12_set 23 = .ok (.ifCond .ne 8, 3) := by decide +kernel
theorem dX12_set_26 : decode cX12_set 26 = .ok (.bipush 9, 2) := by decide +kernel
theorem dX12_set_28 : decode cX12_set 28 = .ok (.goto 23, 3) := by decide +kernel
theorem dX12_set_31 : decode cX12_set 31 = .ok (.iload_n 2, 1) := by decide +kernel
theorem dX12_set_32 : decode cX12_set 32 = .ok (.iconst 1, 1) := by decide +kernel
theorem dX12_set_33 : decode cX12_set 33 = .ok (.if_icmp .ne 8, 3) := by decide +kernel
theorem dX12_set_36 : decode cX12_set 36 = .ok (.bipush 99, 2) := by decide +kernel
theorem dX12_set_38 : decode cX12_set 38 = .ok (.goto 13, 3) := by decide +kernel
theorem dX12_set_41 : decode cX12_set 41 = .ok (.iload_n 2, 1) := by decide +kernel
theorem dX12_set_42 : decode cX12_set 42 = .ok (.iconst 2, 1) := by decide +kernel
theorem dX12_set_43 : decode cX12_set 43 = .ok (.if_icmp .ne 7, 3) := by decide +kernel
theorem dX12_set_46 : decode cX12_set 46 = .ok (.iconst 1, 1) := by decide +kernel
theorem dX12_set_47 : decode cX12_set 47 = .ok (.goto 4, 3) := by decide +kernel
theorem dX12_set_50 : decode cX12_set 50 = .ok (.iconst 3, 1) := by decide +kernel
theorem dX12_set_51 : decode cX12_set 51 = .ok (.invokestatic 92, 3) := by decide +kernel
theorem dX12_set_54 : decode cX12_set 54 = .ok (.ifCond .ne 6, 3) := by decide +kernel
theorem dX12_set_57 : decode cX12_set 57 = .ok (.bipush (-2), 2) := by decide +kernel
theorem dX12_set_59 : decode cX12_set 59 = .ok (.ireturn, 1) := by decide +kernel
theorem dX12_set_60 : decode cX12_set 60 = .ok (.iload_n 2, 1) := by decide +kernel
theorem dX12_set_61 : decode cX12_set 61 = .ok (.ifCond .ne 12, 3) := by decide +kernel
theorem dX12_set_64 : decode cX12_set 64 = .ok (.aload_n 0, 1) := by decide +kernel
theorem dX12_set_65 : decode cX12_set 65 = .ok (.getfield 13, 3) := by decide +kernel
theorem dX12_set_68 : decode cX12_set 68 = .ok (.iload_n 1, 1) := by decide +kernel
theorem dX12_set_69 : decode cX12_set 69 = .ok (.iaload, 1) := by decide +kernel
theorem dX12_set_70 : decode cX12_set 70 = .ok (.goto 37, 3) := by decide +kernel
theorem dX12_set_73 : decode cX12_set 73 = .ok (.iload_n 2, 1) := by decide +kernel
theorem dX12_set_74 : decode cX12_set 74 = .ok (.iconst 1, 1) := by decide +kernel
theorem dX12_set_75 : decode cX12_set 75 = .ok (.if_icmp .ne 12, 3) := by decide +kernel
theorem dX12_set_78 : decode cX12_set 78 = .ok (.aload_n 0, 1) := by decide +kernel
theorem dX12_set_79 : decode cX12_set 79 = .ok (.getfield 16, 3) := by decide +kernel
theorem dX12_set_82 : decode cX12_set 82 = .ok (.iload_n 1, 1) := by decide +kernel
theorem dX12_set_83 : decode cX12_set 83 = .ok (.iaload, 1) := by decide +kernel
theorem dX12_set_84 : decode cX12_set 84 = .ok (.goto 23, 3) := by decide +kernel
theorem dX12_set_87 : decode cX12_set 87 = .ok (.iload_n 2, 1) := by decide +kernel
theorem dX12_set_88 : decode cX12_set 88 = .ok (.iconst 2, 1) := by decide +kernel
theorem dX12_set_89 : decode cX12_set 89 = .ok (.if_icmp .ne 12, 3) := by decide +kernel
theorem dX12_set_92 : decode cX12_set 92 = .ok (.aload_n 0, 1) := by decide +kernel
theorem dX12_set_93 : decode cX12_set 93 = .ok (.getfield 19, 3) := by decide +kernel
theorem dX12_set_96 : decode cX12_set 96 = .ok (.iload_n 1, 1) := by decide +kernel
theorem dX12_set_97 : decode cX12_set 97 = .ok (.iaload, 1) := by decide +kernel
theorem dX12_set_98 : decode cX12_set 98 = .ok (.goto 9, 3) := by decide +kernel
theorem dX12_set_101 : decode cX12_set 101 = .ok (.aload_n 0, 1) := by decide +kernel
theorem dX12_set_102 : decode cX12_set 102 = .ok (.getfield 22, 3) := by decide +kernel
theorem dX12_set_105 : decode cX12_set 105 = .ok (.iload_n 1, 1) := by decide +kernel
theorem dX12_set_106 : decode cX12_set 106 = .ok (.iaload, 1) := by decide +kernel
theorem dX12_set_107 : decode cX12_set 107 = .ok (.istore 4, 2) := by decide +kernel
theorem dX12_set_109 : decode cX12_set 109 = .ok (.iload_n 2, 1) := by decide +kernel
theorem dX12_set_110 : decode cX12_set 110 = .ok (.ifCond .ne 10, 3) := by decide +kernel
theorem dX12_set_113 : decode cX12_set 113 = .ok (.aload_n 0, 1) := by decide +kernel
theorem dX12_set_114 : decode cX12_set 114 = .ok (.getfield 13, 3) := by decide +kernel
theorem dX12_set_117 : decode cX12_set 117 = .ok (.iload_n 1, 1) := by decide +kernel
theorem dX12_set_118 : decode cX12_set 118 = .ok (.iload_n 3, 1) := by decide +kernel
theorem dX12_set_119 : decode cX12_set 119 = .ok (.iastore, 1) := by decide +kernel
theorem dX12_set_120 : decode cX12_set 120 = .ok (.iload_n 2, 1) := by decide +kernel
theorem dX12_set_121 : decode cX12_set 121 = .ok (.iconst 1, 1) := by decide +kernel
theorem dX12_set_122 : decode cX12_set 122 = .ok (.if_icmp .ne 10, 3) := by decide +kernel
theorem dX12_set_125 : decode cX12_set 125 = .ok (.aload_n 0, 1) := by decide +kernel
theorem dX12_set_126 : decode cX12_set 126 = .ok (.getfield 16, 3) := by decide +kernel
theorem dX12_set_129 : decode cX12_set 129 = .ok (.iload_n 1, 1) := by decide +kernel
theorem dX12_set_130 : decode cX12_set 130 = .ok (.iload_n 3, 1) := by decide +kernel
theorem dX12_set_131 : decode cX12_set 131 = .ok (.iastore, 1) := by decide +kernel
theorem dX12_set_132 : decode cX12_set 132 = .ok (.iload_n 2, 1) := by decide +kernel
theorem dX12_set_133 : decode cX12_set 133 = .ok (.iconst 2, 1) := by decide +kernel
theorem dX12_set_134 : decode cX12_set 134 = .ok (.if_icmp .ne 10, 3) := by decide +kernel
theorem dX12_set_137 : decode cX12_set 137 = .ok (.aload_n 0, 1) := by decide +kernel
theorem dX12_set_138 : decode cX12_set 138 = .ok (.getfield 19, 3) := by decide +kernel
theorem dX12_set_141 : decode cX12_set 141 = .ok (.iload_n 1, 1) := by decide +kernel
theorem dX12_set_142 : decode cX12_set 142 = .ok (.iload_n 3, 1) := by decide +kernel
theorem dX12_set_143 : decode cX12_set 143 = .ok (.iastore, 1) := by decide +kernel
theorem dX12_set_144 : decode cX12_set 144 = .ok (.iload_n 2, 1) := by decide +kernel
theorem dX12_set_145 : decode cX12_set 145 = .ok (.iconst 3, 1) := by decide +kernel
theorem dX12_set_146 : decode cX12_set 146 = .ok (.if_icmp .ne 10, 3) := by decide +kernel
theorem dX12_set_149 : decode cX12_set 149 = .ok (.aload_n 0, 1) := by decide +kernel
theorem dX12_set_150 : decode cX12_set 150 = .ok (.getfield 22, 3) := by decide +kernel
theorem dX12_set_153 : decode cX12_set 153 = .ok (.iload_n 1, 1) := by decide +kernel
theorem dX12_set_154 : decode cX12_set 154 = .ok (.iload_n 3, 1) := by decide +kernel
theorem dX12_set_155 : decode cX12_set 155 = .ok (.iastore, 1) := by decide +kernel
theorem dX12_set_156 : decode cX12_set 156 = .ok (.iload 4, 2) := by decide +kernel
theorem dX12_set_158 : decode cX12_set 158 = .ok (.ireturn, 1) := by decide +kernel
theorem dX12_bag_0 : decode cX12_bag 0 = .ok (.iload_n 1, 1) := by decide +kernel
theorem dX12_bag_1 : decode cX12_bag 1 = .ok (.iconst 0, 1) := by decide +kernel
theorem dX12_bag_2 : decode cX12_bag 2 = .ok (.bipush 9, 2) := by decide +kernel
theorem dX12_bag_4 : decode cX12_bag 4 = .ok (.invokestatic 92, 3) := by decide +kernel
theorem dX12_bag_7 : decode cX12_bag 7 = .ok (.ifCond .eq 20, 3) := by decide +kernel
theorem dX12_bag_10 : decode cX12_bag 10 = .ok (.iload_n 2, 1) := by decide +kernel
theorem dX12_bag_11 : decode cX12_bag 11 = .ok (.getstatic 190, 3) := by decide +kernel
theorem dX12_bag_14 : decode cX12_bag 14 = .ok (.iload_n 1, 1) := by decide +kernel
theorem dX12_bag_15 : decode cX12_bag 15 = .ok (.iaload, 1) := by decide +kernel
theorem dX12_bag_16 : decode cX12_bag 16 = .ok (.getstatic 193, 3) := by decide +kernel
theorem dX12_bag_19 : decode cX12_bag 19 = .ok (.iload_n 1, 1) := by decide +kernel
theorem dX12_bag_20 : decode cX12_bag 20 = .ok (.iaload, 1) := by decide +kernel
theorem dX12_bag_21 : decode cX12_bag 21 = .ok (.invokestatic 92, 3) := by decide +kernel
theorem dX12_bag_24 : decode cX12_bag 24 = .ok (.ifCond .ne 6, 3) := by decide +kernel
theorem dX12_bag_27 : decode cX12_bag 27 = .ok (.bipush (-2), 2) := by decide +kernel
theorem dX12_bag_29 : decode cX12_bag 29 = .ok (.ireturn, 1) := by decide +kernel
theorem dX12_bag_30 : decode cX12_bag 30 = .ok (.aload_n 0, 1) := by decide +kernel
theorem dX12_bag_31 : decode cX12_bag 31 = .ok (.getfield 28, 3) := by decide +kernel
theorem dX12_bag_34 : decode cX12_bag 34 = .ok (.iload_n 1, 1) := by decide +kernel
theorem dX12_bag_35 : decode cX12_bag 35 = .ok (.iaload, 1) := by decide +kernel
theorem dX12_bag_36 : decode cX12_bag 36 = .ok (.istore_n 3, 1) := by decide +kernel
theorem dX12_bag_37 : decode cX12_bag 37 = .ok (.aload_n 0, 1) := by decide +kernel
theorem dX12_bag_38 : decode cX12_bag 38 = .ok (.getfield 28, 3) := by decide +kernel
theorem dX12_bag_41 : decode cX12_bag 41 = .ok (.iload_n 1, 1) := by decide +kernel
theorem dX12_bag_42 : decode cX12_bag 42 = .ok (.iload_n 2, 1) := by decide +kernel
theorem dX12_bag_43 : decode cX12_bag 43 = .ok (.iastore, 1) := by decide +kernel
theorem dX12_bag_44 : decode cX12_bag 44 = .ok (.iload_n 3, 1) := by decide +kernel
theorem dX12_bag_45 : decode cX12_bag 45 = .ok (.ireturn, 1) := by decide +kernel
theorem dX12_placeInList_0 : decode cX12_placeInList 0 = .ok (.iconst 0, 1) := by decide +kernel
theorem dX12_placeInList_1 : decode cX12_placeInList 1 = .ok (.istore_n 2, 1) := by decide +kernel
theorem dX12_placeInList_2 : decode cX12_placeInList 2 = .ok (.aload_n 0, 1) := by decide +kernel
theorem dX12_placeInList_3 : decode cX12_placeInList 3 = .ok (.getfield 25, 3) := by decide +kernel
theorem dX12_placeInList_6 : decode cX12_placeInList 6 = .ok (.iload_n 2, 1) := by decide +kernel
theorem dX12_placeInList_7 : decode cX12_placeInList 7 = .ok (.iaload, 1) := by decide +kernel
theorem dX12_placeInList_8 : decode cX12_placeInList 8 = .ok (.iload_n 1, 1) := by decide +kernel
theorem dX12_placeInList_9 : decode cX12_placeInList 9 = .ok (.if_icmp .eq 9, 3) := by decide +kernel
theorem dX12_placeInList_12 : decode cX12_placeInList 12 = .ok (.iinc 2 1, 3) := by decide +kernel
theorem dX12_placeInList_15 : decode cX12_placeInList 15 = .ok (.goto (-13), 3) := by decide +kernel
theorem dX12_placeInList_18 : decode cX12_placeInList 18 = .ok (.iload_n 2, 1) := by decide +kernel
theorem dX12_placeInList_19 : decode cX12_placeInList 19 = .ok (.ireturn, 1) := by decide +kernel
theorem dX12_told_0 : decode cX12_told 0 = .ok (.aload_n 0, 1) := by decide +kernel
theorem dX12_told_1 : decode cX12_told 1 = .ok (.iload_n 1, 1) := by decide +kernel
theorem dX12_told_2 : decode cX12_told 2 = .ok (.invokevirtual 187, 3) := by decide +kernel
theorem dX12_told_5 : decode cX12_told 5 = .ok (.ifCond .ne 6, 3) := by decide +kernel
theorem dX12_told_8 : decode cX12_told 8 = .ok (.bipush (-2), 2) := by decide +kernel
theorem dX12_told_10 : decode cX12_told 10 = .ok (.ireturn, 1) := by decide +kernel
theorem dX12_told_11 : decode cX12_told 11 = .ok (.iload_n 2, 1) := by decide +kernel
theorem dX12_told_12 : decode cX12_told 12 = .ok (.tableswitch 101 0 7 #[48, 55, 62, 69, 76, 83, 89, 95], 48) := by decide +kernel
theorem dX12_told_60 : decode cX12_told 60 = .ok (.aload_n 0, 1) := by decide +kernel
theorem dX12_told_61 : decode cX12_told 61 = .ok (.getfield 13, 3) := by decide +kernel
theorem dX12_told_64 : decode cX12_told 64 = .ok (.iload_n 1, 1) := by decide +kernel
theorem dX12_told_65 : decode cX12_told 65 = .ok (.iaload, 1) := by decide +kernel
theorem dX12_told_66 : decode cX12_told 66 = .ok (.ireturn, 1) := by decide +kernel
theorem dX12_told_67 : decode cX12_told 67 = .ok (.aload_n 0, 1) := by decide +kernel
theorem dX12_told_68 : decode cX12_told 68 = .ok (.getfield 16, 3) := by decide +kernel
theorem dX12_told_71 : decode cX12_told 71 = .ok (.iload_n 1, 1) := by decide +kernel
theorem dX12_told_72 : decode cX12_told 72 = .ok (.iaload, 1) := by decide +kernel
theorem dX12_told_73 : decode cX12_told 73 = .ok (.ireturn, 1) := by decide +kernel
theorem dX12_told_74 : decode cX12_told 74 = .ok (.aload_n 0, 1) := by decide +kernel
theorem dX12_told_75 : decode cX12_told 75 = .ok (.getfield 19, 3) := by decide +kernel
theorem dX12_told_78 : decode cX12_told 78 = .ok (.iload_n 1, 1) := by decide +kernel
theorem dX12_told_79 : decode cX12_told 79 = .ok (.iaload, 1) := by decide +kernel
theorem dX12_told_80 : decode cX12_told 80 = .ok (.ireturn, 1) := by decide +kernel
theorem dX12_told_81 : decode cX12_told 81 = .ok (.aload_n 0, 1) := by decide +kernel
theorem dX12_told_82 : decode cX12_told 82 = .ok (.getfield 22, 3) := by decide +kernel
theorem dX12_told_85 : decode cX12_told 85 = .ok (.iload_n 1, 1) := by decide +kernel
theorem dX12_told_86 : decode cX12_told 86 = .ok (.iaload, 1) := by decide +kernel
theorem dX12_told_87 : decode cX12_told 87 = .ok (.ireturn, 1) := by decide +kernel
theorem dX12_told_88 : decode cX12_told 88 = .ok (.aload_n 0, 1) := by decide +kernel
theorem dX12_told_89 : decode cX12_told 89 = .ok (.getfield 7, 3) := by decide +kernel
theorem dX12_told_92 : decode cX12_told 92 = .ok (.iload_n 1, 1) := by decide +kernel
theorem dX12_told_93 : decode cX12_told 93 = .ok (.iaload, 1) := by decide +kernel
theorem dX12_told_94 : decode cX12_told 94 = .ok (.ireturn, 1) := by decide +kernel
theorem dX12_told_95 : decode cX12_told 95 = .ok (.aload_n 0, 1) := by decide +kernel
theorem dX12_told_96 : decode cX12_told 96 = .ok (.iload_n 1, 1) := by decide +kernel
theorem dX12_told_97 : decode cX12_told 97 = .ok (.invokevirtual 196, 3) := by decide +kernel
theorem dX12_told_100 : decode cX12_told 100 = .ok (.ireturn, 1) := by decide +kernel
theorem dX12_told_101 : decode cX12_told 101 = .ok (.aload_n 0, 1) := by decide +kernel
theorem dX12_told_102 : decode cX12_told 102 = .ok (.iload_n 1, 1) := by decide +kernel
theorem dX12_told_103 : decode cX12_told 103 = .ok (.invokevirtual 199, 3) := by decide +kernel
theorem dX12_told_106 : decode cX12_told 106 = .ok (.ireturn, 1) := by decide +kernel
theorem dX12_told_107 : decode cX12_told 107 = .ok (.aload_n 0, 1) := by decide +kernel
theorem dX12_told_108 : decode cX12_told 108 = .ok (.iload_n 1, 1) := by decide +kernel
theorem dX12_told_109 : decode cX12_told 109 = .ok (.invokevirtual 202, 3) := by decide +kernel
theorem dX12_told_112 : decode cX12_told 112 = .ok (.ireturn, 1) := by decide +kernel
theorem dX12_told_113 : decode cX12_told 113 = .ok (.bipush (-2), 2) := by decide +kernel
theorem dX12_told_115 : decode cX12_told 115 = .ok (.ireturn, 1) := by decide +kernel
theorem dX12_swap_0 : decode cX12_swap 0 = .ok (.aload_n 0, 1) := by decide +kernel
theorem dX12_swap_1 : decode cX12_swap 1 = .ok (.iload_n 1, 1) := by decide +kernel
theorem dX12_swap_2 : decode cX12_swap 2 = .ok (.invokevirtual 187, 3) := by decide +kernel
theorem dX12_swap_5 : decode cX12_swap 5 = .ok (.ifCond .eq 11, 3) := by decide +kernel
theorem dX12_swap_8 : decode cX12_swap 8 = .ok (.aload_n 0, 1) := by decide +kernel
theorem dX12_swap_9 : decode cX12_swap 9 = .ok (.iload_n 2, 1) := by decide +kernel
theorem dX12_swap_10 : decode cX12_swap 10 = .ok (.invokevirtual 187, 3) := by decide +kernel
theorem dX12_swap_13 : decode cX12_swap 13 = .ok (.ifCond .ne 6, 3) := by decide +kernel
theorem dX12_swap_16 : decode cX12_swap 16 = .ok (.bipush (-2), 2) := by decide +kernel
theorem dX12_swap_18 : decode cX12_swap 18 = .ok (.ireturn, 1) := by decide +kernel
theorem dX12_swap_19 : decode cX12_swap 19 = .ok (.aload_n 0, 1) := by decide +kernel
theorem dX12_swap_20 : decode cX12_swap 20 = .ok (.getfield 25, 3) := by decide +kernel
theorem dX12_swap_23 : decode cX12_swap 23 = .ok (.iload_n 1, 1) := by decide +kernel
theorem dX12_swap_24 : decode cX12_swap 24 = .ok (.iaload, 1) := by decide +kernel
theorem dX12_swap_25 : decode cX12_swap 25 = .ok (.istore_n 3, 1) := by decide +kernel
theorem dX12_swap_26 : decode cX12_swap 26 = .ok (.aload_n 0, 1) := by decide +kernel
theorem dX12_swap_27 : decode cX12_swap 27 = .ok (.getfield 25, 3) := by decide +kernel
theorem dX12_swap_30 : decode cX12_swap 30 = .ok (.iload_n 1, 1) := by decide +kernel
theorem dX12_swap_31 : decode cX12_swap 31 = .ok (.aload_n 0, 1) := by decide +kernel
theorem dX12_swap_32 : decode cX12_swap 32 = .ok (.getfield 25, 3) := by decide +kernel
theorem dX12_swap_35 : decode cX12_swap 35 = .ok (.iload_n 2, 1) := by decide +kernel
theorem dX12_swap_36 : decode cX12_swap 36 = .ok (.iaload, 1) := by decide +kernel
theorem dX12_swap_37 : decode cX12_swap 37 = .ok (.iastore, 1) := by decide +kernel
theorem dX12_swap_38 : decode cX12_swap 38 = .ok (.aload_n 0, 1) := by decide +kernel
theorem dX12_swap_39 : decode cX12_swap 39 = .ok (.getfield 25, 3) := by decide +kernel
theorem dX12_swap_42 : decode cX12_swap 42 = .ok (.iload_n 2, 1) := by decide +kernel
theorem dX12_swap_43 : decode cX12_swap 43 = .ok (.iload_n 3, 1) := by decide +kernel
theorem dX12_swap_44 : decode cX12_swap 44 = .ok (.iastore, 1) := by decide +kernel
theorem dX12_swap_45 : decode cX12_swap 45 = .ok (.aload_n 0, 1) := by decide +kernel
theorem dX12_swap_46 : decode cX12_swap 46 = .ok (.getfield 25, 3) := by decide +kernel
theorem dX12_swap_49 : decode cX12_swap 49 = .ok (.iload_n 1, 1) := by decide +kernel
theorem dX12_swap_50 : decode cX12_swap 50 = .ok (.iaload, 1) := by decide +kernel
theorem dX12_swap_51 : decode cX12_swap 51 = .ok (.ireturn, 1) := by decide +kernel
theorem dX12_isUnder_0 : decode cX12_isUnder 0 = .ok (.iload_n 0, 1) := by decide +kernel
theorem dX12_isUnder_1 : decode cX12_isUnder 1 = .ok (.iload_n 1, 1) := by decide +kernel
theorem dX12_isUnder_2 : decode cX12_isUnder 2 = .ok (.if_icmp .eq 32, 3) := by decide +kernel
theorem dX12_isUnder_5 : decode cX12_isUnder 5 = .ok (.iload_n 1, 1) := by decide +kernel
theorem dX12_isUnder_6 : decode cX12_isUnder 6 = .ok (.ifCond .eq 28, 3) := by decide +kernel
theorem dX12_isUnder_9 : decode cX12_isUnder 9 = .ok (.iload_n 1, 1) := by decide +kernel
theorem dX12_isUnder_10 : decode cX12_isUnder 10 = .ok (.iconst 1, 1) := by decide +kernel
theorem dX12_isUnder_11 : decode cX12_isUnder 11 = .ok (.if_icmp .ne 13, 3) := by decide +kernel
theorem dX12_isUnder_14 : decode cX12_isUnder 14 = .ok (.iload_n 0, 1) := by decide +kernel
theorem dX12_isUnder_15 : decode cX12_isUnder 15 = .ok (.iconst 3, 1) := by decide +kernel
theorem dX12_isUnder_16 : decode cX12_isUnder 16 = .ok (.if_icmp .eq 18, 3) := by decide +kernel
theorem dX12_isUnder_19 : decode cX12_isUnder 19 = .ok (.iload_n 0, 1) := by decide +kernel
theorem dX12_isUnder_20 : decode cX12_isUnder 20 = .ok (.iconst 5, 1) := by decide +kernel
theorem dX12_isUnder_21 : decode cX12_isUnder 21 = .ok (.if_icmp .eq 13, 3) := by decide +kernel
theorem dX12_isUnder_24 : decode cX12_isUnder 24 = .ok (.iload_n 1, 1) := by decide +kernel
theorem dX12_isUnder_25 : decode cX12_isUnder 25 = .ok (.iconst 2, 1) := by decide +kernel
theorem dX12_isUnder_26 : decode cX12_isUnder 26 = .ok (.if_icmp .ne 12, 3) := by decide +kernel
theorem dX12_isUnder_29 : decode cX12_isUnder 29 = .ok (.iload_n 0, 1) := by decide +kernel
theorem dX12_isUnder_30 : decode cX12_isUnder 30 = .ok (.iconst 4, 1) := by decide +kernel
theorem dX12_isUnder_31 : decode cX12_isUnder 31 = .ok (.if_icmp .ne 7, 3) := by decide +kernel
theorem dX12_isUnder_34 : decode cX12_isUnder 34 = .ok (.iconst 1, 1) := by decide +kernel
theorem dX12_isUnder_35 : decode cX12_isUnder 35 = .ok (.goto 4, 3) := by decide +kernel
theorem dX12_isUnder_38 : decode cX12_isUnder 38 = .ok (.iconst 0, 1) := by decide +kernel
theorem dX12_isUnder_39 : decode cX12_isUnder 39 = .ok (.ireturn, 1) := by decide +kernel
theorem dX12_taken_0 : decode cX12_taken 0 = .ok (.iload_n 2, 1) := by decide +kernel
theorem dX12_taken_1 : decode cX12_taken 1 = .ok (.iconst 0, 1) := by decide +kernel
theorem dX12_taken_2 : decode cX12_taken 2 = .ok (.iconst 5, 1) := by decide +kernel
theorem dX12_taken_3 : decode cX12_taken 3 = .ok (.invokestatic 92, 3) := by decide +kernel
theorem dX12_taken_6 : decode cX12_taken 6 = .ok (.ifCond .ne 6, 3) := by decide +kernel
theorem dX12_taken_9 : decode cX12_taken 9 = .ok (.bipush (-2), 2) := by decide +kernel
theorem dX12_taken_11 : decode cX12_taken 11 = .ok (.ireturn, 1) := by decide +kernel
theorem dX12_taken_12 : decode cX12_taken 12 = .ok (.aload_n 0, 1) := by decide +kernel
theorem dX12_taken_13 : decode cX12_taken 13 = .ok (.iload_n 1, 1) := by decide +kernel
theorem dX12_taken_14 : decode cX12_taken 14 = .ok (.invokevirtual 187, 3) := by decide +kernel
theorem dX12_taken_17 : decode cX12_taken 17 = .ok (.ifCond .ne 6, 3) := by decide +kernel
theorem dX12_taken_20 : decode cX12_taken 20 = .ok (.bipush (-11), 2) := by decide +kernel
theorem dX12_taken_22 : decode cX12_taken 22 = .ok (.ireturn, 1) := by decide +kernel
theorem dX12_taken_23 : decode cX12_taken 23 = .ok (.aload_n 0, 1) := by decide +kernel
theorem dX12_taken_24 : decode cX12_taken 24 = .ok (.getfield 7, 3) := by decide +kernel
theorem dX12_taken_27 : decode cX12_taken 27 = .ok (.iload_n 1, 1) := by decide +kernel
theorem dX12_taken_28 : decode cX12_taken 28 = .ok (.iaload, 1) := by decide +kernel
theorem dX12_taken_29 : decode cX12_taken 29 = .ok (.iload_n 2, 1) := by decide +kernel
theorem dX12_taken_30 : decode cX12_taken 30 = .ok (.invokestatic 205, 3) := by decide +kernel
theorem dX12_taken_33 : decode cX12_taken 33 = .ok (.ifCond .eq 12, 3) := by decide +kernel
theorem dX12_taken_36 : decode cX12_taken 36 = .ok (.aload_n 0, 1) := by decide +kernel
theorem dX12_taken_37 : decode cX12_taken 37 = .ok (.getfield 13, 3) := by decide +kernel
theorem dX12_taken_40 : decode cX12_taken 40 = .ok (.iload_n 1, 1) := by decide +kernel
theorem dX12_taken_41 : decode cX12_taken 41 = .ok (.iaload, 1) := by decide +kernel
theorem dX12_taken_42 : decode cX12_taken 42 = .ok (.goto 5, 3) := by decide +kernel
theorem dX12_taken_45 : decode cX12_taken 45 = .ok (.bipush (-13), 2) := by decide +kernel
theorem dX12_taken_47 : decode cX12_taken 47 = .ok (.ireturn, 1) := by decide +kernel
theorem dX12_takesList_0 : decode cX12_takesList 0 = .ok (.aload_n 0, 1) := by decide +kernel
theorem dX12_takesList_1 : decode cX12_takesList 1 = .ok (.aload_n 0, 1) := by decide +kernel
theorem dX12_takesList_2 : decode cX12_takesList 2 = .ok (.getfield 82, 3) := by decide +kernel
theorem dX12_takesList_5 : decode cX12_takesList 5 = .ok (.putfield 208, 3) := by decide +kernel
theorem dX12_takesList_8 : decode cX12_takesList 8 = .ok (.iconst 0, 1) := by decide +kernel
theorem dX12_takesList_9 : decode cX12_takesList 9 = .ok (.istore_n 1, 1) := by decide +kernel
theorem dX12_takesList_10 : decode cX12_takesList 10 = .ok (.iload_n 1, 1) := by decide +kernel
theorem dX12_takesList_11 : decode cX12_takesList 11 = .ok (.aload_n 0, 1) := by decide +kernel
theorem dX12_takesList_12 : decode cX12_takesList 12 = .ok (.getfield 82, 3) := by decide +kernel
theorem dX12_takesList_15 : decode cX12_takesList 15 = .ok (.if_icmp .ge 21, 3) := by decide +kernel
theorem dX12_takesList_18 : decode cX12_takesList 18 = .ok (.aload_n 0, 1) := by decide +kernel
theorem dX12_takesList_19 : decode cX12_takesList 19 = .ok (.getfield 55, 3) := by decide +kernel
theorem dX12_takesList_22 : decode cX12_takesList 22 = .ok (.iload_n 1, 1) := by decide +kernel
theorem dX12_takesList_23 : decode cX12_takesList 23 = .ok (.aload_n 0, 1) := by decide +kernel
theorem dX12_takesList_24 : decode cX12_takesList 24 = .ok (.getfield 25, 3) := by decide +kernel
theorem dX12_takesList_27 : decode cX12_takesList 27 = .ok (.iload_n 1, 1) := by decide +kernel
theorem dX12_takesList_28 : decode cX12_takesList 28 = .ok (.iaload, 1) := by decide +kernel
theorem dX12_takesList_29 : decode cX12_takesList 29 = .ok (.iastore, 1) := by decide +kernel
theorem dX12_takesList_30 : decode cX12_takesList 30 = .ok (.iinc 1 1, 3) := by decide +kernel
theorem dX12_takesList_33 : decode cX12_takesList 33 = .ok (.goto (-23), 3) := by decide +kernel
theorem dX12_takesList_36 : decode cX12_takesList 36 = .ok (.return_, 1) := by decide +kernel
theorem dX12_far_0 : decode cX12_far 0 = .ok (.iload_n 1, 1) := by decide +kernel
theorem dX12_far_1 : decode cX12_far 1 = .ok (.iload_n 2, 1) := by decide +kernel
theorem dX12_far_2 : decode cX12_far 2 = .ok (.if_icmp .ge 9, 3) := by decide +kernel
theorem dX12_far_5 : decode cX12_far 5 = .ok (.iload_n 2, 1) := by decide +kernel
theorem dX12_far_6 : decode cX12_far 6 = .ok (.iload_n 1, 1) := by decide +kernel
theorem dX12_far_7 : decode cX12_far 7 = .ok (.isub, 1) := by decide +kernel
theorem dX12_far_8 : decode cX12_far 8 = .ok (.goto 6, 3) := by decide +kernel
theorem dX12_far_11 : decode cX12_far 11 = .ok (.iload_n 1, 1) := by decide +kernel
theorem dX12_far_12 : decode cX12_far 12 = .ok (.iload_n 2, 1) := by decide +kernel
theorem dX12_far_13 : decode cX12_far 13 = .ok (.isub, 1) := by decide +kernel
theorem dX12_far_14 : decode cX12_far 14 = .ok (.istore_n 3, 1) := by decide +kernel
theorem dX12_far_15 : decode cX12_far 15 = .ok (.iload_n 3, 1) := by decide +kernel
theorem dX12_far_16 : decode cX12_far 16 = .ok (.aload_n 0, 1) := by decide +kernel
theorem dX12_far_17 : decode cX12_far 17 = .ok (.getfield 28, 3) := by decide +kernel
theorem dX12_far_20 : decode cX12_far 20 = .ok (.iconst 3, 1) := by decide +kernel
theorem dX12_far_21 : decode cX12_far 21 = .ok (.iaload, 1) := by decide +kernel
theorem dX12_far_22 : decode cX12_far 22 = .ok (.iadd, 1) := by decide +kernel
theorem dX12_far_23 : decode cX12_far 23 = .ok (.iconst 1, 1) := by decide +kernel
theorem dX12_far_24 : decode cX12_far 24 = .ok (.isub, 1) := by decide +kernel
theorem dX12_far_25 : decode cX12_far 25 = .ok (.aload_n 0, 1) := by decide +kernel
theorem dX12_far_26 : decode cX12_far 26 = .ok (.getfield 28, 3) := by decide +kernel
theorem dX12_far_29 : decode cX12_far 29 = .ok (.iconst 3, 1) := by decide +kernel
theorem dX12_far_30 : decode cX12_far 30 = .ok (.iaload, 1) := by decide +kernel
theorem dX12_far_31 : decode cX12_far 31 = .ok (.idiv, 1) := by decide +kernel
theorem dX12_far_32 : decode cX12_far 32 = .ok (.ireturn, 1) := by decide +kernel
theorem dX12_takesPapers_0 : decode cX12_takesPapers 0 = .ok (.iconst 0, 1) := by decide +kernel
theorem dX12_takesPapers_1 : decode cX12_takesPapers 1 = .ok (.istore_n 2, 1) := by decide +kernel
theorem dX12_takesPapers_2 : decode cX12_takesPapers 2 = .ok (.iconst 0, 1) := by decide +kernel
theorem dX12_takesPapers_3 : decode cX12_takesPapers 3 = .ok (.istore_n 3, 1) := by decide +kernel
theorem dX12_takesPapers_4 : decode cX12_takesPapers 4 = .ok (.iload_n 1, 1) := by decide +kernel
theorem dX12_takesPapers_5 : decode cX12_takesPapers 5 = .ok (.iload_n 3, 1) := by decide +kernel
theorem dX12_takesPapers_6 : decode cX12_takesPapers 6 = .ok (.iadd, 1) := by decide +kernel
theorem dX12_takesPapers_7 : decode cX12_takesPapers 7 = .ok (.aload_n 0, 1) := by decide +kernel
theorem dX12_takesPapers_8 : decode cX12_takesPapers 8 = .ok (.getfield 208, 3) := by decide +kernel
theorem dX12_takesPapers_11 : decode cX12_takesPapers 11 = .ok (.if_icmp .ge 40, 3) := by decide +kernel
theorem dX12_takesPapers_14 : decode cX12_takesPapers 14 = .ok (.iload_n 2, 1) := by decide +kernel
theorem dX12_takesPapers_15 : decode cX12_takesPapers 15 = .ok (.aload_n 0, 1) := by decide +kernel
theorem dX12_takesPapers_16 : decode cX12_takesPapers 16 = .ok (.aload_n 0, 1) := by decide +kernel
theorem dX12_takesPapers_17 : decode cX12_takesPapers 17 = .ok (.getfield 55, 3) := by decide +kernel
theorem dX12_takesPapers_20 : decode cX12_takesPapers 20 = .ok (.iload_n 1, 1) := by decide +kernel
theorem dX12_takesPapers_21 : decode cX12_takesPapers 21 = .ok (.iload_n 3, 1) := by decide +kernel
theorem dX12_takesPapers_22 : decode cX12_takesPapers 22 = .ok (.iadd, 1) := by decide +kernel
theorem dX12_takesPapers_23 : decode cX12_takesPapers 23 = .ok (.iaload, 1) := by decide +kernel
theorem dX12_takesPapers_24 : decode cX12_takesPapers 24 = .ok (.invokevirtual 181, 3) := by decide +kernel
theorem dX12_takesPapers_27 : decode cX12_takesPapers 27 = .ok (.iadd, 1) := by decide +kernel
theorem dX12_takesPapers_28 : decode cX12_takesPapers 28 = .ok (.istore_n 2, 1) := by decide +kernel
theorem dX12_takesPapers_29 : decode cX12_takesPapers 29 = .ok (.iload_n 3, 1) := by decide +kernel
theorem dX12_takesPapers_30 : decode cX12_takesPapers 30 = .ok (.ifCond .le 15, 3) := by decide +kernel
theorem dX12_takesPapers_33 : decode cX12_takesPapers 33 = .ok (.iload_n 2, 1) := by decide +kernel
theorem dX12_takesPapers_34 : decode cX12_takesPapers 34 = .ok (.aload_n 0, 1) := by decide +kernel
theorem dX12_takesPapers_35 : decode cX12_takesPapers 35 = .ok (.getfield 28, 3) := by decide +kernel
theorem dX12_takesPapers_38 : decode cX12_takesPapers 38 = .ok (.iconst 0, 1) := by decide +kernel
theorem dX12_takesPapers_39 : decode cX12_takesPapers 39 = .ok (.iaload, 1) := by decide +kernel
theorem dX12_takesPapers_40 : decode cX12_takesPapers 40 = .ok (.if_icmp .le 5, 3) := by decide +kernel
theorem dX12_takesPapers_43 : decode cX12_takesPapers 43 = .ok (.iload_n 3, 1) := by decide +kernel
theorem dX12_takesPapers_44 : decode cX12_takesPapers 44 = .ok (.ireturn, 1) := by decide +kernel
theorem dX12_takesPapers_45 : decode cX12_takesPapers 45 = .ok (.iinc 3 1, 3) := by decide +kernel
theorem dX12_takesPapers_48 : decode cX12_takesPapers 48 = .ok (.goto (-44), 3) := by decide +kernel
theorem dX12_takesPapers_51 : decode cX12_takesPapers 51 = .ok (.iload_n 3, 1) := by decide +kernel
theorem dX12_takesPapers_52 : decode cX12_takesPapers 52 = .ok (.ireturn, 1) := by decide +kernel
theorem dX12_walks_0 : decode cX12_walks 0 = .ok (.aload_n 0, 1) := by decide +kernel
theorem dX12_walks_1 : decode cX12_walks 1 = .ok (.getfield 28, 3) := by decide +kernel
theorem dX12_walks_4 : decode cX12_walks 4 = .ok (.iconst 2, 1) := by decide +kernel
theorem dX12_walks_5 : decode cX12_walks 5 = .ok (.iaload, 1) := by decide +kernel
theorem dX12_walks_6 : decode cX12_walks 6 = .ok (.istore_n 1, 1) := by decide +kernel
theorem dX12_walks_7 : decode cX12_walks 7 = .ok (.aload_n 0, 1) := by decide +kernel
theorem dX12_walks_8 : decode cX12_walks 8 = .ok (.getfield 28, 3) := by decide +kernel
theorem dX12_walks_11 : decode cX12_walks 11 = .ok (.iconst 1, 1) := by decide +kernel
theorem dX12_walks_12 : decode cX12_walks 12 = .ok (.iaload, 1) := by decide +kernel
theorem dX12_walks_13 : decode cX12_walks 13 = .ok (.istore_n 2, 1) := by decide +kernel
theorem dX12_walks_14 : decode cX12_walks 14 = .ok (.iconst 0, 1) := by decide +kernel
theorem dX12_walks_15 : decode cX12_walks 15 = .ok (.istore_n 3, 1) := by decide +kernel
theorem dX12_walks_16 : decode cX12_walks 16 = .ok (.aload_n 0, 1) := by decide +kernel
theorem dX12_walks_17 : decode cX12_walks 17 = .ok (.iconst 0, 1) := by decide +kernel
theorem dX12_walks_18 : decode cX12_walks 18 = .ok (.putfield 211, 3) := by decide +kernel
theorem dX12_walks_21 : decode cX12_walks 21 = .ok (.aload_n 0, 1) := by decide +kernel
theorem dX12_walks_22 : decode cX12_walks 22 = .ok (.iconst 0, 1) := by decide +kernel
theorem dX12_walks_23 : decode cX12_walks 23 = .ok (.invokevirtual 214, 3) := by decide +kernel
theorem dX12_walks_26 : decode cX12_walks 26 = .ok (.istore 4, 2) := by decide +kernel
theorem dX12_walks_28 : decode cX12_walks 28 = .ok (.iconst 0, 1) := by decide +kernel
theorem dX12_walks_29 : decode cX12_walks 29 = .ok (.istore 5, 2) := by decide +kernel
theorem dX12_walks_31 : decode cX12_walks 31 = .ok (.iload 5, 2) := by decide +kernel
theorem dX12_walks_33 : decode cX12_walks 33 = .ok (.aload_n 0, 1) := by decide +kernel
theorem dX12_walks_34 : decode cX12_walks 34 = .ok (.getfield 208, 3) := by decide +kernel
theorem dX12_walks_37 : decode cX12_walks 37 = .ok (.if_icmp .ge 135, 3) := by decide +kernel
theorem dX12_walks_40 : decode cX12_walks 40 = .ok (.aload_n 0, 1) := by decide +kernel
theorem dX12_walks_41 : decode cX12_walks 41 = .ok (.getfield 55, 3) := by decide +kernel
theorem dX12_walks_44 : decode cX12_walks 44 = .ok (.iload 5, 2) := by decide +kernel
theorem dX12_walks_46 : decode cX12_walks 46 = .ok (.iaload, 1) := by decide +kernel
theorem dX12_walks_47 : decode cX12_walks 47 = .ok (.istore 6, 2) := by decide +kernel
theorem dX12_walks_49 : decode cX12_walks 49 = .ok (.iload 4, 2) := by decide +kernel
theorem dX12_walks_51 : decode cX12_walks 51 = .ok (.ifCond .ne 42, 3) := by decide +kernel
theorem dX12_walks_54 : decode cX12_walks 54 = .ok (.iload_n 1, 1) := by decide +kernel
theorem dX12_walks_55 : decode cX12_walks 55 = .ok (.aload_n 0, 1) := by decide +kernel
theorem dX12_walks_56 : decode cX12_walks 56 = .ok (.iload_n 2, 1) := by decide +kernel
theorem dX12_walks_57 : decode cX12_walks 57 = .ok (.aload_n 0, 1) := by decide +kernel
theorem dX12_walks_58 : decode cX12_walks 58 = .ok (.getfield 28, 3) := by decide +kernel
theorem dX12_walks_61 : decode cX12_walks 61 = .ok (.iconst 1, 1) := by decide +kernel
theorem dX12_walks_62 : decode cX12_walks 62 = .ok (.iaload, 1) := by decide +kernel
theorem dX12_walks_63 : decode cX12_walks 63 = .ok (.invokevirtual 217, 3) := by decide +kernel
theorem dX12_walks_66 : decode cX12_walks 66 = .ok (.iadd, 1) := by decide +kernel
theorem dX12_walks_67 : decode cX12_walks 67 = .ok (.istore_n 1, 1) := by decide +kernel
theorem dX12_walks_68 : decode cX12_walks 68 = .ok (.aload_n 0, 1) := by decide +kernel
theorem dX12_walks_69 : decode cX12_walks 69 = .ok (.getfield 28, 3) := by decide +kernel
theorem dX12_walks_72 : decode cX12_walks 72 = .ok (.iconst 1, 1) := by decide +kernel
theorem dX12_walks_73 : decode cX12_walks 73 = .ok (.iaload, 1) := by decide +kernel
theorem dX12_walks_74 : decode cX12_walks 74 = .ok (.istore_n 2, 1) := by decide +kernel
theorem dX12_walks_75 : decode cX12_walks 75 = .ok (.aload_n 0, 1) := by decide +kernel
theorem dX12_walks_76 : decode cX12_walks 76 = .ok (.dup, 1) := by decide +kernel
theorem dX12_walks_77 : decode cX12_walks 77 = .ok (.getfield 211, 3) := by decide +kernel
theorem dX12_walks_80 : decode cX12_walks 80 = .ok (.iconst 1, 1) := by decide +kernel
theorem dX12_walks_81 : decode cX12_walks 81 = .ok (.iadd, 1) := by decide +kernel
theorem dX12_walks_82 : decode cX12_walks 82 = .ok (.putfield 211, 3) := by decide +kernel
theorem dX12_walks_85 : decode cX12_walks 85 = .ok (.aload_n 0, 1) := by decide +kernel
theorem dX12_walks_86 : decode cX12_walks 86 = .ok (.iload 5, 2) := by decide +kernel
theorem dX12_walks_88 : decode cX12_walks 88 = .ok (.invokevirtual 214, 3) := by decide +kernel
theorem dX12_walks_91 : decode cX12_walks 91 = .ok (.istore 4, 2) := by decide +kernel
theorem dX12_walks_93 : decode cX12_walks 93 = .ok (.iload_n 1, 1) := by decide +kernel
theorem dX12_walks_94 : decode cX12_walks 94 = .ok (.aload_n 0, 1) := by decide +kernel
theorem dX12_walks_95 : decode cX12_walks 95 = .ok (.iload_n 2, 1) := by decide +kernel
theorem dX12_walks_96 : decode cX12_walks 96 = .ok (.aload_n 0, 1) := by decide +kernel
theorem dX12_walks_97 : decode cX12_walks 97 = .ok (.getfield 16, 3) := by decide +kernel
theorem dX12_walks_100 : decode cX12_walks 100 = .ok (.iload 6, 2) := by decide +kernel
theorem dX12_walks_102 : decode cX12_walks 102 = .ok (.iaload, 1) := by decide +kernel
theorem dX12_walks_103 : decode cX12_walks 103 = .ok (.invokevirtual 217, 3) := by decide +kernel
theorem dX12_walks_106 : decode cX12_walks 106 = .ok (.iload_n 3, 1) := by decide +kernel
theorem dX12_walks_107 : decode cX12_walks 107 = .ok (.aload_n 0, 1) := by decide +kernel
theorem dX12_walks_108 : decode cX12_walks 108 = .ok (.getfield 19, 3) := by decide +kernel
theorem dX12_walks_111 : decode cX12_walks 111 = .ok (.iload 6, 2) := by decide +kernel
theorem dX12_walks_113 : decode cX12_walks 113 = .ok (.iaload, 1) := by decide +kernel
theorem dX12_walks_114 : decode cX12_walks 114 = .ok (.if_icmp .ne 7, 3) := by decide +kernel
theorem dX12_walks_117 : decode cX12_walks 117 = .ok (.iconst 0, 1) := by decide +kernel
theorem dX12_walks_118 : decode cX12_walks 118 = .ok (.goto 9, 3) := by decide +kernel
theorem dX12_walks_121 : decode cX12_walks 121 = .ok (.aload_n 0, 1) := by decide +kernel
theorem dX12_walks_122 : decode cX12_walks 122 = .ok (.getfield 28, 3) := by decide +kernel
theorem dX12_walks_125 : decode cX12_walks 125 = .ok (.iconst 4, 1) := by decide +kernel
theorem dX12_walks_126 : decode cX12_walks 126 = .ok (.iaload, 1) := by decide +kernel
theorem dX12_walks_127 : decode cX12_walks 127 = .ok (.iadd, 1) := by decide +kernel
theorem dX12_walks_128 : decode cX12_walks 128 = .ok (.iadd, 1) := by decide +kernel
theorem dX12_walks_129 : decode cX12_walks 129 = .ok (.istore_n 1, 1) := by decide +kernel
theorem dX12_walks_130 : decode cX12_walks 130 = .ok (.aload_n 0, 1) := by decide +kernel
theorem dX12_walks_131 : decode cX12_walks 131 = .ok (.getfield 58, 3) := by decide +kernel
theorem dX12_walks_134 : decode cX12_walks 134 = .ok (.iload 6, 2) := by decide +kernel
theorem dX12_walks_136 : decode cX12_walks 136 = .ok (.iload_n 1, 1) := by decide +kernel
theorem dX12_walks_137 : decode cX12_walks 137 = .ok (.iastore, 1) := by decide +kernel
theorem dX12_walks_138 : decode cX12_walks 138 = .ok (.iload_n 1, 1) := by decide +kernel
theorem dX12_walks_139 : decode cX12_walks 139 = .ok (.aload_n 0, 1) := by decide +kernel
theorem dX12_walks_140 : decode cX12_walks 140 = .ok (.iload 6, 2) := by decide +kernel
theorem dX12_walks_142 : decode cX12_walks 142 = .ok (.invokevirtual 199, 3) := by decide +kernel
theorem dX12_walks_145 : decode cX12_walks 145 = .ok (.iadd, 1) := by decide +kernel
theorem dX12_walks_146 : decode cX12_walks 146 = .ok (.istore_n 1, 1) := by decide +kernel
theorem dX12_walks_147 : decode cX12_walks 147 = .ok (.aload_n 0, 1) := by decide +kernel
theorem dX12_walks_148 : decode cX12_walks 148 = .ok (.getfield 16, 3) := by decide +kernel
theorem dX12_walks_151 : decode cX12_walks 151 = .ok (.iload 6, 2) := by decide +kernel
theorem dX12_walks_153 : decode cX12_walks 153 = .ok (.iaload, 1) := by decide +kernel
theorem dX12_walks_154 : decode cX12_walks 154 = .ok (.istore_n 2, 1) := by decide +kernel
theorem dX12_walks_155 : decode cX12_walks 155 = .ok (.aload_n 0, 1) := by decide +kernel
theorem dX12_walks_156 : decode cX12_walks 156 = .ok (.getfield 19, 3) := by decide +kernel
theorem dX12_walks_159 : decode cX12_walks 159 = .ok (.iload 6, 2) := by decide +kernel
theorem dX12_walks_161 : decode cX12_walks 161 = .ok (.iaload, 1) := by decide +kernel
theorem dX12_walks_162 : decode cX12_walks 162 = .ok (.istore_n 3, 1) := by decide +kernel
theorem dX12_walks_163 : decode cX12_walks 163 = .ok (.iinc 4 (-1), 3) := by decide +kernel
theorem dX12_walks_166 : decode cX12_walks 166 = .ok (.iinc 5 1, 3) := by decide +kernel
theorem dX12_walks_169 : decode cX12_walks 169 = .ok (.goto (-138), 3) := by decide +kernel
theorem dX12_walks_172 : decode cX12_walks 172 = .ok (.iload_n 1, 1) := by decide +kernel
theorem dX12_walks_173 : decode cX12_walks 173 = .ok (.ireturn, 1) := by decide +kernel
theorem dX12_lateOf_0 : decode cX12_lateOf 0 = .ok (.aload_n 0, 1) := by decide +kernel
theorem dX12_lateOf_1 : decode cX12_lateOf 1 = .ok (.getfield 58, 3) := by decide +kernel
theorem dX12_lateOf_4 : decode cX12_lateOf 4 = .ok (.iload_n 1, 1) := by decide +kernel
theorem dX12_lateOf_5 : decode cX12_lateOf 5 = .ok (.iaload, 1) := by decide +kernel
theorem dX12_lateOf_6 : decode cX12_lateOf 6 = .ok (.aload_n 0, 1) := by decide +kernel
theorem dX12_lateOf_7 : decode cX12_lateOf 7 = .ok (.iload_n 1, 1) := by decide +kernel
theorem dX12_lateOf_8 : decode cX12_lateOf 8 = .ok (.invokevirtual 202, 3) := by decide +kernel
theorem dX12_lateOf_11 : decode cX12_lateOf 11 = .ok (.isub, 1) := by decide +kernel
theorem dX12_lateOf_12 : decode cX12_lateOf 12 = .ok (.istore_n 2, 1) := by decide +kernel
theorem dX12_lateOf_13 : decode cX12_lateOf 13 = .ok (.iload_n 2, 1) := by decide +kernel
theorem dX12_lateOf_14 : decode cX12_lateOf 14 = .ok (.ifCond .ge 7, 3) := by decide +kernel
theorem dX12_lateOf_17 : decode cX12_lateOf 17 = .ok (.iconst 0, 1) := by decide +kernel
theorem dX12_lateOf_18 : decode cX12_lateOf 18 = .ok (.goto 4, 3) := by decide +kernel
theorem dX12_lateOf_21 : decode cX12_lateOf 21 = .ok (.iload_n 2, 1) := by decide +kernel
theorem dX12_lateOf_22 : decode cX12_lateOf 22 = .ok (.ireturn, 1) := by decide +kernel
theorem dX12_at_0 : decode cX12_at 0 = .ok (.aload_n 0, 1) := by decide +kernel
theorem dX12_at_1 : decode cX12_at 1 = .ok (.iload_n 1, 1) := by decide +kernel
theorem dX12_at_2 : decode cX12_at 2 = .ok (.invokevirtual 187, 3) := by decide +kernel
theorem dX12_at_5 : decode cX12_at 5 = .ok (.ifCond .eq 12, 3) := by decide +kernel
theorem dX12_at_8 : decode cX12_at 8 = .ok (.iload_n 2, 1) := by decide +kernel
theorem dX12_at_9 : decode cX12_at 9 = .ok (.iconst 0, 1) := by decide +kernel
theorem dX12_at_10 : decode cX12_at 10 = .ok (.iconst 2, 1) := by decide +kernel
theorem dX12_at_11 : decode cX12_at 11 = .ok (.invokestatic 92, 3) := by decide +kernel
theorem dX12_at_14 : decode cX12_at 14 = .ok (.ifCond .ne 6, 3) := by decide +kernel
theorem dX12_at_17 : decode cX12_at 17 = .ok (.bipush (-2), 2) := by decide +kernel
theorem dX12_at_19 : decode cX12_at 19 = .ok (.ireturn, 1) := by decide +kernel
theorem dX12_at_20 : decode cX12_at 20 = .ok (.aload_n 0, 1) := by decide +kernel
theorem dX12_at_21 : decode cX12_at 21 = .ok (.invokevirtual 221, 3) := by decide +kernel
theorem dX12_at_24 : decode cX12_at 24 = .ok (.aload_n 0, 1) := by decide +kernel
theorem dX12_at_25 : decode cX12_at 25 = .ok (.invokevirtual 224, 3) := by decide +kernel
theorem dX12_at_28 : decode cX12_at 28 = .ok (.pop, 1) := by decide +kernel
theorem dX12_at_29 : decode cX12_at 29 = .ok (.iload_n 2, 1) := by decide +kernel
theorem dX12_at_30 : decode cX12_at 30 = .ok (.ifCond .ne 12, 3) := by decide +kernel
theorem dX12_at_33 : decode cX12_at 33 = .ok (.aload_n 0, 1) := by decide +kernel
theorem dX12_at_34 : decode cX12_at 34 = .ok (.getfield 58, 3) := by decide +kernel
theorem dX12_at_37 : decode cX12_at 37 = .ok (.iload_n 1, 1) := by decide +kernel
theorem dX12_at_38 : decode cX12_at 38 = .ok (.iaload, 1) := by decide +kernel
theorem dX12_at_39 : decode cX12_at 39 = .ok (.goto 26, 3) := by decide +kernel
theorem dX12_at_42 : decode cX12_at 42 = .ok (.iload_n 2, 1) := by decide +kernel
theorem dX12_at_43 : decode cX12_at 43 = .ok (.iconst 1, 1) := by decide +kernel
theorem dX12_at_44 : decode cX12_at 44 = .ok (.if_icmp .ne 11, 3) := by decide +kernel
theorem dX12_at_47 : decode cX12_at 47 = .ok (.aload_n 0, 1) := by decide +kernel
theorem dX12_at_48 : decode cX12_at 48 = .ok (.iload_n 1, 1) := by decide +kernel
theorem dX12_at_49 : decode cX12_at 49 = .ok (.invokevirtual 227, 3) := by decide +kernel
theorem dX12_at_52 : decode cX12_at 52 = .ok (.goto 13, 3) := by decide +kernel
theorem dX12_at_55 : decode cX12_at 55 = .ok (.aload_n 0, 1) := by decide +kernel
theorem dX12_at_56 : decode cX12_at 56 = .ok (.iload_n 1, 1) := by decide +kernel
theorem dX12_at_57 : decode cX12_at 57 = .ok (.aload_n 0, 1) := by decide +kernel
theorem dX12_at_58 : decode cX12_at 58 = .ok (.iload_n 1, 1) := by decide +kernel
theorem dX12_at_59 : decode cX12_at 59 = .ok (.invokevirtual 227, 3) := by decide +kernel
theorem dX12_at_62 : decode cX12_at 62 = .ok (.invokevirtual 230, 3) := by decide +kernel
theorem dX12_at_65 : decode cX12_at 65 = .ok (.ireturn, 1) := by decide +kernel
theorem dX12_ringing_0 : decode cX12_ringing 0 = .ok (.iload_n 1, 1) := by decide +kernel
theorem dX12_ringing_1 : decode cX12_ringing 1 = .ok (.istore_n 2, 1) := by decide +kernel
theorem dX12_ringing_2 : decode cX12_ringing 2 = .ok (.iconst 0, 1) := by decide +kernel
theorem dX12_ringing_3 : decode cX12_ringing 3 = .ok (.istore_n 3, 1) := by decide +kernel
theorem dX12_ringing_4 : decode cX12_ringing 4 = .ok (.iload_n 3, 1) := by decide +kernel
theorem dX12_ringing_5 : decode cX12_ringing 5 = .ok (.aload_n 0, 1) := by decide +kernel
theorem dX12_ringing_6 : decode cX12_ringing 6 = .ok (.getfield 82, 3) := by decide +kernel
theorem dX12_ringing_9 : decode cX12_ringing 9 = .ok (.if_icmp .ge 33, 3) := by decide +kernel
theorem dX12_ringing_12 : decode cX12_ringing 12 = .ok (.iload_n 2, 1) := by decide +kernel
theorem dX12_ringing_13 : decode cX12_ringing 13 = .ok (.aload_n 0, 1) := by decide +kernel
theorem dX12_ringing_14 : decode cX12_ringing 14 = .ok (.iconst 1, 1) := by decide +kernel
theorem dX12_ringing_15 : decode cX12_ringing 15 = .ok (.iload_n 3, 1) := by decide +kernel
theorem dX12_ringing_16 : decode cX12_ringing 16 = .ok (.aload_n 0, 1) := by decide +kernel
theorem dX12_ringing_17 : decode cX12_ringing 17 = .ok (.iload_n 3, 1) := by decide +kernel
theorem dX12_ringing_18 : decode cX12_ringing 18 = .ok (.invokevirtual 227, 3) := by decide +kernel
theorem dX12_ringing_21 : decode cX12_ringing 21 = .ok (.invokevirtual 175, 3) := by decide +kernel
theorem dX12_ringing_24 : decode cX12_ringing 24 = .ok (.ifCond .eq 9, 3) := by decide +kernel
theorem dX12_ringing_27 : decode cX12_ringing 27 = .ok (.iconst 1, 1) := by decide +kernel
theorem dX12_ringing_28 : decode cX12_ringing 28 = .ok (.iload_n 3, 1) := by decide +kernel
theorem dX12_ringing_29 : decode cX12_ringing 29 = .ok (.ishl, 1) := by decide +kernel
theorem dX12_ringing_30 : decode cX12_ringing 30 = .ok (.goto 4, 3) := by decide +kernel
theorem dX12_ringing_33 : decode cX12_ringing 33 = .ok (.iconst 0, 1) := by decide +kernel
theorem dX12_ringing_34 : decode cX12_ringing 34 = .ok (.ior, 1) := by decide +kernel
theorem dX12_ringing_35 : decode cX12_ringing 35 = .ok (.istore_n 2, 1) := by decide +kernel
theorem dX12_ringing_36 : decode cX12_ringing 36 = .ok (.iinc 3 1, 3) := by decide +kernel
theorem dX12_ringing_39 : decode cX12_ringing 39 = .ok (.goto (-35), 3) := by decide +kernel
theorem dX12_ringing_42 : decode cX12_ringing 42 = .ok (.iload_n 2, 1) := by decide +kernel
theorem dX12_ringing_43 : decode cX12_ringing 43 = .ok (.ireturn, 1) := by decide +kernel
theorem dX12_purse_0 : decode cX12_purse 0 = .ok (.iconst 0, 1) := by decide +kernel
theorem dX12_purse_1 : decode cX12_purse 1 = .ok (.istore_n 2, 1) := by decide +kernel
theorem dX12_purse_2 : decode cX12_purse 2 = .ok (.iconst 0, 1) := by decide +kernel
theorem dX12_purse_3 : decode cX12_purse 3 = .ok (.istore_n 3, 1) := by decide +kernel
theorem dX12_purse_4 : decode cX12_purse 4 = .ok (.iload_n 3, 1) := by decide +kernel
theorem dX12_purse_5 : decode cX12_purse 5 = .ok (.aload_n 0, 1) := by decide +kernel
theorem dX12_purse_6 : decode cX12_purse 6 = .ok (.getfield 82, 3) := by decide +kernel
theorem dX12_purse_9 : decode cX12_purse 9 = .ok (.if_icmp .ge 35, 3) := by decide +kernel
theorem dX12_purse_12 : decode cX12_purse 12 = .ok (.iload_n 2, 1) := by decide +kernel
theorem dX12_purse_13 : decode cX12_purse 13 = .ok (.iload_n 1, 1) := by decide +kernel
theorem dX12_purse_14 : decode cX12_purse 14 = .ok (.iload_n 3, 1) := by decide +kernel
theorem dX12_purse_15 : decode cX12_purse 15 = .ok (.ishr, 1) := by decide +kernel
theorem dX12_purse_16 : decode cX12_purse 16 = .ok (.iconst 1, 1) := by decide +kernel
theorem dX12_purse_17 : decode cX12_purse 17 = .ok (.iand, 1) := by decide +kernel
theorem dX12_purse_18 : decode cX12_purse 18 = .ok (.iconst 1, 1) := by decide +kernel
theorem dX12_purse_19 : decode cX12_purse 19 = .ok (.if_icmp .ne 7, 3) := by decide +kernel
theorem dX12_purse_22 : decode cX12_purse 22 = .ok (.iconst 0, 1) := by decide +kernel
theorem dX12_purse_23 : decode cX12_purse 23 = .ok (.goto 13, 3) := by decide +kernel
theorem dX12_purse_26 : decode cX12_purse 26 = .ok (.aload_n 0, 1) := by decide +kernel
theorem dX12_purse_27 : decode cX12_purse 27 = .ok (.iload_n 3, 1) := by decide +kernel
theorem dX12_purse_28 : decode cX12_purse 28 = .ok (.aload_n 0, 1) := by decide +kernel
theorem dX12_purse_29 : decode cX12_purse 29 = .ok (.iload_n 3, 1) := by decide +kernel
theorem dX12_purse_30 : decode cX12_purse 30 = .ok (.invokevirtual 227, 3) := by decide +kernel
theorem dX12_purse_33 : decode cX12_purse 33 = .ok (.invokevirtual 230, 3) := by decide +kernel
theorem dX12_purse_36 : decode cX12_purse 36 = .ok (.iadd, 1) := by decide +kernel
theorem dX12_purse_37 : decode cX12_purse 37 = .ok (.istore_n 2, 1) := by decide +kernel
theorem dX12_purse_38 : decode cX12_purse 38 = .ok (.iinc 3 1, 3) := by decide +kernel
theorem dX12_purse_41 : decode cX12_purse 41 = .ok (.goto (-37), 3) := by decide +kernel
theorem dX12_purse_44 : decode cX12_purse 44 = .ok (.iload_n 2, 1) := by decide +kernel
theorem dX12_purse_45 : decode cX12_purse 45 = .ok (.ireturn, 1) := by decide +kernel
theorem dX12_lateMany_0 : decode cX12_lateMany 0 = .ok (.iconst 0, 1) := by decide +kernel
theorem dX12_lateMany_1 : decode cX12_lateMany 1 = .ok (.istore_n 1, 1) := by decide +kernel
theorem dX12_lateMany_2 : decode cX12_lateMany 2 = .ok (.iconst 0, 1) := by decide +kernel
theorem dX12_lateMany_3 : decode cX12_lateMany 3 = .ok (.istore_n 2, 1) := by decide +kernel
theorem dX12_lateMany_4 : decode cX12_lateMany 4 = .ok (.iload_n 2, 1) := by decide +kernel
theorem dX12_lateMany_5 : decode cX12_lateMany 5 = .ok (.aload_n 0, 1) := by decide +kernel
theorem dX12_lateMany_6 : decode cX12_lateMany 6 = .ok (.getfield 82, 3) := by decide +kernel
theorem dX12_lateMany_9 : decode cX12_lateMany 9 = .ok (.if_icmp .ge 25, 3) := by decide +kernel
theorem dX12_lateMany_12 : decode cX12_lateMany 12 = .ok (.iload_n 1, 1) := by decide +kernel
theorem dX12_lateMany_13 : decode cX12_lateMany 13 = .ok (.aload_n 0, 1) := by decide +kernel
theorem dX12_lateMany_14 : decode cX12_lateMany 14 = .ok (.iload_n 2, 1) := by decide +kernel
theorem dX12_lateMany_15 : decode cX12_lateMany 15 = .ok (.invokevirtual 227, 3) := by decide +kernel
theorem dX12_lateMany_18 : decode cX12_lateMany 18 = .ok (.ifCond .le 7, 3) := by decide +kernel
theorem dX12_lateMany_21 : decode cX12_lateMany 21 = .ok (.iconst 1, 1) := by decide +kernel
theorem dX12_lateMany_22 : decode cX12_lateMany 22 = .ok (.goto 4, 3) := by decide +kernel
theorem dX12_lateMany_25 : decode cX12_lateMany 25 = .ok (.iconst 0, 1) := by decide +kernel
theorem dX12_lateMany_26 : decode cX12_lateMany 26 = .ok (.iadd, 1) := by decide +kernel
theorem dX12_lateMany_27 : decode cX12_lateMany 27 = .ok (.istore_n 1, 1) := by decide +kernel
theorem dX12_lateMany_28 : decode cX12_lateMany 28 = .ok (.iinc 2 1, 3) := by decide +kernel
theorem dX12_lateMany_31 : decode cX12_lateMany 31 = .ok (.goto (-27), 3) := by decide +kernel
theorem dX12_lateMany_34 : decode cX12_lateMany 34 = .ok (.iload_n 1, 1) := by decide +kernel
theorem dX12_lateMany_35 : decode cX12_lateMany 35 = .ok (.ireturn, 1) := by decide +kernel
theorem dX12_round_0 : decode cX12_round 0 = .ok (.iload_n 1, 1) := by decide +kernel
theorem dX12_round_1 : decode cX12_round 1 = .ok (.iconst 0, 1) := by decide +kernel
theorem dX12_round_2 : decode cX12_round 2 = .ok (.iconst 4, 1) := by decide +kernel
theorem dX12_round_3 : decode cX12_round 3 = .ok (.invokestatic 92, 3) := by decide +kernel
theorem dX12_round_6 : decode cX12_round 6 = .ok (.ifCond .ne 6, 3) := by decide +kernel
theorem dX12_round_9 : decode cX12_round 9 = .ok (.bipush (-2), 2) := by decide +kernel
theorem dX12_round_11 : decode cX12_round 11 = .ok (.ireturn, 1) := by decide +kernel
theorem dX12_round_12 : decode cX12_round 12 = .ok (.aload_n 0, 1) := by decide +kernel
theorem dX12_round_13 : decode cX12_round 13 = .ok (.invokevirtual 221, 3) := by decide +kernel
theorem dX12_round_16 : decode cX12_round 16 = .ok (.aload_n 0, 1) := by decide +kernel
theorem dX12_round_17 : decode cX12_round 17 = .ok (.invokevirtual 224, 3) := by decide +kernel
theorem dX12_round_20 : decode cX12_round 20 = .ok (.istore_n 2, 1) := by decide +kernel
theorem dX12_round_21 : decode cX12_round 21 = .ok (.iload_n 1, 1) := by decide +kernel
theorem dX12_round_22 : decode cX12_round 22 = .ok (.ifCond .ne 7, 3) := by decide +kernel
theorem dX12_round_25 : decode cX12_round 25 = .ok (.iload_n 2, 1) := by decide +kernel
theorem dX12_round_26 : decode cX12_round 26 = .ok (.goto 49, 3) := by decide +kernel
theorem dX12_round_29 : decode cX12_round 29 = .ok (.iload_n 1, 1) := by decide +kernel
theorem dX12_round_30 : decode cX12_round 30 = .ok (.iconst 1, 1) := by decide +kernel
theorem dX12_round_31 : decode cX12_round 31 = .ok (.if_icmp .ne 10, 3) := by decide +kernel
theorem dX12_round_34 : decode cX12_round 34 = .ok (.aload_n 0, 1) := by decide +kernel
theorem dX12_round_35 : decode cX12_round 35 = .ok (.getfield 211, 3) := by decide +kernel
theorem dX12_round_38 : decode cX12_round 38 = .ok (.goto 37, 3) := by decide +kernel
theorem dX12_round_41 : decode cX12_round 41 = .ok (.iload_n 1, 1) := by decide +kernel
theorem dX12_round_42 : decode cX12_round 42 = .ok (.iconst 2, 1) := by decide +kernel
theorem dX12_round_43 : decode cX12_round 43 = .ok (.if_icmp .ne 10, 3) := by decide +kernel
theorem dX12_round_46 : decode cX12_round 46 = .ok (.aload_n 0, 1) := by decide +kernel
theorem dX12_round_47 : decode cX12_round 47 = .ok (.invokevirtual 233, 3) := by decide +kernel
theorem dX12_round_50 : decode cX12_round 50 = .ok (.goto 25, 3) := by decide +kernel
theorem dX12_round_53 : decode cX12_round 53 = .ok (.iload_n 1, 1) := by decide +kernel
theorem dX12_round_54 : decode cX12_round 54 = .ok (.iconst 3, 1) := by decide +kernel
theorem dX12_round_55 : decode cX12_round 55 = .ok (.if_icmp .ne 11, 3) := by decide +kernel
theorem dX12_round_58 : decode cX12_round 58 = .ok (.aload_n 0, 1) := by decide +kernel
theorem dX12_round_59 : decode cX12_round 59 = .ok (.iconst 0, 1) := by decide +kernel
theorem dX12_round_60 : decode cX12_round 60 = .ok (.invokevirtual 236, 3) := by decide +kernel
theorem dX12_round_63 : decode cX12_round 63 = .ok (.goto 12, 3) := by decide +kernel
theorem dX12_round_66 : decode cX12_round 66 = .ok (.aload_n 0, 1) := by decide +kernel
theorem dX12_round_67 : decode cX12_round 67 = .ok (.aload_n 0, 1) := by decide +kernel
theorem dX12_round_68 : decode cX12_round 68 = .ok (.iconst 0, 1) := by decide +kernel
theorem dX12_round_69 : decode cX12_round 69 = .ok (.invokevirtual 236, 3) := by decide +kernel
theorem dX12_round_72 : decode cX12_round 72 = .ok (.invokevirtual 239, 3) := by decide +kernel
theorem dX12_round_75 : decode cX12_round 75 = .ok (.ireturn, 1) := by decide +kernel
theorem dX12_wrongBy_0 : decode cX12_wrongBy 0 = .ok (.iconst 0, 1) := by decide +kernel
theorem dX12_wrongBy_1 : decode cX12_wrongBy 1 = .ok (.istore_n 2, 1) := by decide +kernel
theorem dX12_wrongBy_2 : decode cX12_wrongBy 2 = .ok (.iload_n 1, 1) := by decide +kernel
theorem dX12_wrongBy_3 : decode cX12_wrongBy 3 = .ok (.iconst 1, 1) := by decide +kernel
theorem dX12_wrongBy_4 : decode cX12_wrongBy 4 = .ok (.if_icmp .le 7, 3) := by decide +kernel
theorem dX12_wrongBy_7 : decode cX12_wrongBy 7 = .ok (.iload_n 1, 1) := by decide +kernel
theorem dX12_wrongBy_8 : decode cX12_wrongBy 8 = .ok (.goto 4, 3) := by decide +kernel
theorem dX12_wrongBy_11 : decode cX12_wrongBy 11 = .ok (.iconst 1, 1) := by decide +kernel
theorem dX12_wrongBy_12 : decode cX12_wrongBy 12 = .ok (.istore_n 3, 1) := by decide +kernel
theorem dX12_wrongBy_13 : decode cX12_wrongBy 13 = .ok (.iload_n 3, 1) := by decide +kernel
theorem dX12_wrongBy_14 : decode cX12_wrongBy 14 = .ok (.aload_n 0, 1) := by decide +kernel
theorem dX12_wrongBy_15 : decode cX12_wrongBy 15 = .ok (.getfield 82, 3) := by decide +kernel
theorem dX12_wrongBy_18 : decode cX12_wrongBy 18 = .ok (.if_icmp .ge 51, 3) := by decide +kernel
theorem dX12_wrongBy_21 : decode cX12_wrongBy 21 = .ok (.iload_n 2, 1) := by decide +kernel
theorem dX12_wrongBy_22 : decode cX12_wrongBy 22 = .ok (.aload_n 0, 1) := by decide +kernel
theorem dX12_wrongBy_23 : decode cX12_wrongBy 23 = .ok (.getfield 22, 3) := by decide +kernel
theorem dX12_wrongBy_26 : decode cX12_wrongBy 26 = .ok (.aload_n 0, 1) := by decide +kernel
theorem dX12_wrongBy_27 : decode cX12_wrongBy 27 = .ok (.getfield 25, 3) := by decide +kernel
theorem dX12_wrongBy_30 : decode cX12_wrongBy 30 = .ok (.iload_n 3, 1) := by decide +kernel
theorem dX12_wrongBy_31 : decode cX12_wrongBy 31 = .ok (.iconst 1, 1) := by decide +kernel
theorem dX12_wrongBy_32 : decode cX12_wrongBy 32 = .ok (.isub, 1) := by decide +kernel
theorem dX12_wrongBy_33 : decode cX12_wrongBy 33 = .ok (.iaload, 1) := by decide +kernel
theorem dX12_wrongBy_34 : decode cX12_wrongBy 34 = .ok (.iaload, 1) := by decide +kernel
theorem dX12_wrongBy_35 : decode cX12_wrongBy 35 = .ok (.aload_n 0, 1) := by decide +kernel
theorem dX12_wrongBy_36 : decode cX12_wrongBy 36 = .ok (.getfield 22, 3) := by decide +kernel
theorem dX12_wrongBy_39 : decode cX12_wrongBy 39 = .ok (.aload_n 0, 1) := by decide +kernel
theorem dX12_wrongBy_40 : decode cX12_wrongBy 40 = .ok (.getfield 25, 3) := by decide +kernel
theorem dX12_wrongBy_43 : decode cX12_wrongBy 43 = .ok (.iload_n 3, 1) := by decide +kernel
theorem dX12_wrongBy_44 : decode cX12_wrongBy 44 = .ok (.iaload, 1) := by decide +kernel
theorem dX12_wrongBy_45 : decode cX12_wrongBy 45 = .ok (.iaload, 1) := by decide +kernel
theorem dX12_wrongBy_46 : decode cX12_wrongBy 46 = .ok (.if_icmp .eq 14, 3) := by decide +kernel
theorem dX12_wrongBy_49 : decode cX12_wrongBy 49 = .ok (.iconst 1, 1) := by decide +kernel
theorem dX12_wrongBy_50 : decode cX12_wrongBy 50 = .ok (.aload_n 0, 1) := by decide +kernel
theorem dX12_wrongBy_51 : decode cX12_wrongBy 51 = .ok (.getfield 25, 3) := by decide +kernel
theorem dX12_wrongBy_54 : decode cX12_wrongBy 54 = .ok (.iload_n 3, 1) := by decide +kernel
theorem dX12_wrongBy_55 : decode cX12_wrongBy 55 = .ok (.iaload, 1) := by decide +kernel
theorem dX12_wrongBy_56 : decode cX12_wrongBy 56 = .ok (.ishl, 1) := by decide +kernel
theorem dX12_wrongBy_57 : decode cX12_wrongBy 57 = .ok (.goto 4, 3) := by decide +kernel
theorem dX12_wrongBy_60 : decode cX12_wrongBy 60 = .ok (.iconst 0, 1) := by decide +kernel
theorem dX12_wrongBy_61 : decode cX12_wrongBy 61 = .ok (.ior, 1) := by decide +kernel
theorem dX12_wrongBy_62 : decode cX12_wrongBy 62 = .ok (.istore_n 2, 1) := by decide +kernel
theorem dX12_wrongBy_63 : decode cX12_wrongBy 63 = .ok (.iinc 3 1, 3) := by decide +kernel
theorem dX12_wrongBy_66 : decode cX12_wrongBy 66 = .ok (.goto (-53), 3) := by decide +kernel
theorem dX12_wrongBy_69 : decode cX12_wrongBy 69 = .ok (.iload_n 2, 1) := by decide +kernel
theorem dX12_wrongBy_70 : decode cX12_wrongBy 70 = .ok (.ireturn, 1) := by decide +kernel
theorem dX12_shifted_0 : decode cX12_shifted 0 = .ok (.iload_n 1, 1) := by decide +kernel
theorem dX12_shifted_1 : decode cX12_shifted 1 = .ok (.iconst 0, 1) := by decide +kernel
theorem dX12_shifted_2 : decode cX12_shifted 2 = .ok (.aload_n 0, 1) := by decide +kernel
theorem dX12_shifted_3 : decode cX12_shifted 3 = .ok (.getfield 82, 3) := by decide +kernel
theorem dX12_shifted_6 : decode cX12_shifted 6 = .ok (.invokestatic 92, 3) := by decide +kernel
theorem dX12_shifted_9 : decode cX12_shifted 9 = .ok (.ifCond .eq 12, 3) := by decide +kernel
theorem dX12_shifted_12 : decode cX12_shifted 12 = .ok (.iload_n 2, 1) := by decide +kernel
theorem dX12_shifted_13 : decode cX12_shifted 13 = .ok (.iconst 0, 1) := by decide +kernel
theorem dX12_shifted_14 : decode cX12_shifted 14 = .ok (.iconst 2, 1) := by decide +kernel
theorem dX12_shifted_15 : decode cX12_shifted 15 = .ok (.invokestatic 92, 3) := by decide +kernel
theorem dX12_shifted_18 : decode cX12_shifted 18 = .ok (.ifCond .ne 6, 3) := by decide +kernel
theorem dX12_shifted_21 : decode cX12_shifted 21 = .ok (.bipush (-2), 2) := by decide +kernel
theorem dX12_shifted_23 : decode cX12_shifted 23 = .ok (.ireturn, 1) := by decide +kernel
theorem dX12_shifted_24 : decode cX12_shifted 24 = .ok (.aload_n 0, 1) := by decide +kernel
theorem dX12_shifted_25 : decode cX12_shifted 25 = .ok (.invokevirtual 221, 3) := by decide +kernel
theorem dX12_shifted_28 : decode cX12_shifted 28 = .ok (.aload_n 0, 1) := by decide +kernel
theorem dX12_shifted_29 : decode cX12_shifted 29 = .ok (.invokevirtual 224, 3) := by decide +kernel
theorem dX12_shifted_32 : decode cX12_shifted 32 = .ok (.pop, 1) := by decide +kernel
theorem dX12_shifted_33 : decode cX12_shifted 33 = .ok (.aload_n 0, 1) := by decide +kernel
theorem dX12_shifted_34 : decode cX12_shifted 34 = .ok (.iload_n 1, 1) := by decide +kernel
theorem dX12_shifted_35 : decode cX12_shifted 35 = .ok (.invokevirtual 242, 3) := by decide +kernel
theorem dX12_shifted_38 : decode cX12_shifted 38 = .ok (.istore_n 3, 1) := by decide +kernel
theorem dX12_shifted_39 : decode cX12_shifted 39 = .ok (.iload_n 2, 1) := by decide +kernel
theorem dX12_shifted_40 : decode cX12_shifted 40 = .ok (.ifCond .ne 7, 3) := by decide +kernel
theorem dX12_shifted_43 : decode cX12_shifted 43 = .ok (.iload_n 3, 1) := by decide +kernel
theorem dX12_shifted_44 : decode cX12_shifted 44 = .ok (.goto 25, 3) := by decide +kernel
theorem dX12_shifted_47 : decode cX12_shifted 47 = .ok (.iload_n 2, 1) := by decide +kernel
theorem dX12_shifted_48 : decode cX12_shifted 48 = .ok (.iconst 1, 1) := by decide +kernel
theorem dX12_shifted_49 : decode cX12_shifted 49 = .ok (.if_icmp .ne 11, 3) := by decide +kernel
theorem dX12_shifted_52 : decode cX12_shifted 52 = .ok (.aload_n 0, 1) := by decide +kernel
theorem dX12_shifted_53 : decode cX12_shifted 53 = .ok (.iload_n 3, 1) := by decide +kernel
theorem dX12_shifted_54 : decode cX12_shifted 54 = .ok (.invokevirtual 236, 3) := by decide +kernel
theorem dX12_shifted_57 : decode cX12_shifted 57 = .ok (.goto 12, 3) := by decide +kernel
theorem dX12_shifted_60 : decode cX12_shifted 60 = .ok (.aload_n 0, 1) := by decide +kernel
theorem dX12_shifted_61 : decode cX12_shifted 61 = .ok (.aload_n 0, 1) := by decide +kernel
theorem dX12_shifted_62 : decode cX12_shifted 62 = .ok (.iload_n 3, 1) := by decide +kernel
theorem dX12_shifted_63 : decode cX12_shifted 63 = .ok (.invokevirtual 236, 3) := by decide +kernel
theorem dX12_shifted_66 : decode cX12_shifted 66 = .ok (.invokevirtual 239, 3) := by decide +kernel
theorem dX12_shifted_69 : decode cX12_shifted 69 = .ok (.ireturn, 1) := by decide +kernel
theorem dX12_isRinging_0 : decode cX12_isRinging 0 = .ok (.iconst 0, 1) := by decide +kernel
theorem dX12_isRinging_1 : decode cX12_isRinging 1 = .ok (.istore_n 3, 1) := by decide +kernel
theorem dX12_isRinging_2 : decode cX12_isRinging 2 = .ok (.iload_n 3, 1) := by decide +kernel
theorem dX12_isRinging_3 : decode cX12_isRinging 3 = .ok (.aload_n 0, 1) := by decide +kernel
theorem dX12_isRinging_4 : decode cX12_isRinging 4 = .ok (.getfield 82, 3) := by decide +kernel
theorem dX12_isRinging_7 : decode cX12_isRinging 7 = .ok (.if_icmp .ge 30, 3) := by decide +kernel
theorem dX12_isRinging_10 : decode cX12_isRinging 10 = .ok (.aload_n 0, 1) := by decide +kernel
theorem dX12_isRinging_11 : decode cX12_isRinging 11 = .ok (.getfield 73, 3) := by decide +kernel
theorem dX12_isRinging_14 : decode cX12_isRinging 14 = .ok (.bipush 40, 2) := by decide +kernel
theorem dX12_isRinging_16 : decode cX12_isRinging 16 = .ok (.iload_n 2, 1) := by decide +kernel
theorem dX12_isRinging_17 : decode cX12_isRinging 17 = .ok (.imul, 1) := by decide +kernel
theorem dX12_isRinging_18 : decode cX12_isRinging 18 = .ok (.iload_n 3, 1) := by decide +kernel
theorem dX12_isRinging_19 : decode cX12_isRinging 19 = .ok (.iadd, 1) := by decide +kernel
theorem dX12_isRinging_20 : decode cX12_isRinging 20 = .ok (.iaload, 1) := by decide +kernel
theorem dX12_isRinging_21 : decode cX12_isRinging 21 = .ok (.iload_n 1, 1) := by decide +kernel
theorem dX12_isRinging_22 : decode cX12_isRinging 22 = .ok (.iload_n 3, 1) := by decide +kernel
theorem dX12_isRinging_23 : decode cX12_isRinging 23 = .ok (.ishr, 1) := by decide +kernel
theorem dX12_isRinging_24 : decode cX12_isRinging 24 = .ok (.iconst 1, 1) := by decide +kernel
theorem dX12_isRinging_25 : decode cX12_isRinging 25 = .ok (.iand, 1) := by decide +kernel
theorem dX12_isRinging_26 : decode cX12_isRinging 26 = .ok (.if_icmp .eq 5, 3) := by decide +kernel
theorem dX12_isRinging_29 : decode cX12_isRinging 29 = .ok (.iconst 0, 1) := by decide +kernel
theorem dX12_isRinging_30 : decode cX12_isRinging 30 = .ok (.ireturn, 1) := by decide +kernel
theorem dX12_isRinging_31 : decode cX12_isRinging 31 = .ok (.iinc 3 1, 3) := by decide +kernel
theorem dX12_isRinging_34 : decode cX12_isRinging 34 = .ok (.goto (-32), 3) := by decide +kernel
theorem dX12_isRinging_37 : decode cX12_isRinging 37 = .ok (.iconst 1, 1) := by decide +kernel
theorem dX12_isRinging_38 : decode cX12_isRinging 38 = .ok (.ireturn, 1) := by decide +kernel
theorem dX12_where_0 : decode cX12_where 0 = .ok (.iload_n 1, 1) := by decide +kernel
theorem dX12_where_1 : decode cX12_where 1 = .ok (.invokestatic 245, 3) := by decide +kernel
theorem dX12_where_4 : decode cX12_where 4 = .ok (.ifCond .eq 12, 3) := by decide +kernel
theorem dX12_where_7 : decode cX12_where 7 = .ok (.iload_n 2, 1) := by decide +kernel
theorem dX12_where_8 : decode cX12_where 8 = .ok (.iconst 0, 1) := by decide +kernel
theorem dX12_where_9 : decode cX12_where 9 = .ok (.iconst 1, 1) := by decide +kernel
theorem dX12_where_10 : decode cX12_where 10 = .ok (.invokestatic 92, 3) := by decide +kernel
theorem dX12_where_13 : decode cX12_where 13 = .ok (.ifCond .ne 6, 3) := by decide +kernel
theorem dX12_where_16 : decode cX12_where 16 = .ok (.bipush (-2), 2) := by decide +kernel
theorem dX12_where_18 : decode cX12_where 18 = .ok (.ireturn, 1) := by decide +kernel
theorem dX12_where_19 : decode cX12_where 19 = .ok (.aload_n 0, 1) := by decide +kernel
theorem dX12_where_20 : decode cX12_where 20 = .ok (.getfield 67, 3) := by decide +kernel
theorem dX12_where_23 : decode cX12_where 23 = .ok (.iload_n 1, 1) := by decide +kernel
theorem dX12_where_24 : decode cX12_where 24 = .ok (.iaload, 1) := by decide +kernel
theorem dX12_where_25 : decode cX12_where 25 = .ok (.ifCond .ge 6, 3) := by decide +kernel
theorem dX12_where_28 : decode cX12_where 28 = .ok (.bipush (-11), 2) := by decide +kernel
theorem dX12_where_30 : decode cX12_where 30 = .ok (.ireturn, 1) := by decide +kernel
theorem dX12_where_31 : decode cX12_where 31 = .ok (.aload_n 0, 1) := by decide +kernel
theorem dX12_where_32 : decode cX12_where 32 = .ok (.getfield 70, 3) := by decide +kernel
theorem dX12_where_35 : decode cX12_where 35 = .ok (.iload_n 1, 1) := by decide +kernel
theorem dX12_where_36 : decode cX12_where 36 = .ok (.iaload, 1) := by decide +kernel
theorem dX12_where_37 : decode cX12_where 37 = .ok (.aload_n 0, 1) := by decide +kernel
theorem dX12_where_38 : decode cX12_where 38 = .ok (.getfield 82, 3) := by decide +kernel
theorem dX12_where_41 : decode cX12_where 41 = .ok (.if_icmp .eq 6, 3) := by decide +kernel
theorem dX12_where_44 : decode cX12_where 44 = .ok (.bipush (-2), 2) := by decide +kernel
theorem dX12_where_46 : decode cX12_where 46 = .ok (.ireturn, 1) := by decide +kernel
theorem dX12_where_47 : decode cX12_where 47 = .ok (.aload_n 0, 1) := by decide +kernel
theorem dX12_where_48 : decode cX12_where 48 = .ok (.invokevirtual 221, 3) := by decide +kernel
theorem dX12_where_51 : decode cX12_where 51 = .ok (.aload_n 0, 1) := by decide +kernel
theorem dX12_where_52 : decode cX12_where 52 = .ok (.invokevirtual 224, 3) := by decide +kernel
theorem dX12_where_55 : decode cX12_where 55 = .ok (.pop, 1) := by decide +kernel
theorem dX12_where_56 : decode cX12_where 56 = .ok (.iconst 0, 1) := by decide +kernel
theorem dX12_where_57 : decode cX12_where 57 = .ok (.istore_n 3, 1) := by decide +kernel
theorem dX12_where_58 : decode cX12_where 58 = .ok (.iconst (-1), 1) := by decide +kernel
theorem dX12_where_59 : decode cX12_where 59 = .ok (.istore 4, 2) := by decide +kernel
theorem dX12_where_61 : decode cX12_where 61 = .ok (.aload_n 0, 1) := by decide +kernel
theorem dX12_where_62 : decode cX12_where 62 = .ok (.getfield 82, 3) := by decide +kernel
theorem dX12_where_65 : decode cX12_where 65 = .ok (.istore 5, 2) := by decide +kernel
theorem dX12_where_67 : decode cX12_where 67 = .ok (.iload 5, 2) := by decide +kernel
theorem dX12_where_69 : decode cX12_where 69 = .ok (.ifCond .lt 37, 3) := by decide +kernel
theorem dX12_where_72 : decode cX12_where 72 = .ok (.aload_n 0, 1) := by decide +kernel
theorem dX12_where_73 : decode cX12_where 73 = .ok (.aload_n 0, 1) := by decide +kernel
theorem dX12_where_74 : decode cX12_where 74 = .ok (.aload_n 0, 1) := by decide +kernel
theorem dX12_where_75 : decode cX12_where 75 = .ok (.iload 5, 2) := by decide +kernel
theorem dX12_where_77 : decode cX12_where 77 = .ok (.invokevirtual 242, 3) := by decide +kernel
theorem dX12_where_80 : decode cX12_where 80 = .ok (.invokevirtual 236, 3) := by decide +kernel
theorem dX12_where_83 : decode cX12_where 83 = .ok (.iload_n 1, 1) := by decide +kernel
theorem dX12_where_84 : decode cX12_where 84 = .ok (.invokevirtual 248, 3) := by decide +kernel
theorem dX12_where_87 : decode cX12_where 87 = .ok (.ifCond .ne 6, 3) := by decide +kernel
theorem dX12_where_90 : decode cX12_where 90 = .ok (.goto 10, 3) := by decide +kernel
theorem dX12_where_93 : decode cX12_where 93 = .ok (.iinc 3 1, 3) := by decide +kernel
theorem dX12_where_96 : decode cX12_where 96 = .ok (.iload 5, 2) := by decide +kernel
theorem dX12_where_98 : decode cX12_where 98 = .ok (.istore 4, 2) := by decide +kernel
theorem dX12_where_100 : decode cX12_where 100 = .ok (.iinc 5 (-1), 3) := by decide +kernel
theorem dX12_where_103 : decode cX12_where 103 = .ok (.goto (-36), 3) := by decide +kernel
theorem dX12_where_106 : decode cX12_where 106 = .ok (.iload_n 2, 1) := by decide +kernel
theorem dX12_where_107 : decode cX12_where 107 = .ok (.ifCond .ne 7, 3) := by decide +kernel
theorem dX12_where_110 : decode cX12_where 110 = .ok (.iload_n 3, 1) := by decide +kernel
theorem dX12_where_111 : decode cX12_where 111 = .ok (.goto 5, 3) := by decide +kernel
theorem dX12_where_114 : decode cX12_where 114 = .ok (.iload 4, 2) := by decide +kernel
theorem dX12_where_116 : decode cX12_where 116 = .ok (.ireturn, 1) := by decide +kernel
theorem dX12_changes_0 : decode cX12_changes 0 = .ok (.aload_n 0, 1) := by decide +kernel
theorem dX12_changes_1 : decode cX12_changes 1 = .ok (.getfield 55, 3) := by decide +kernel
theorem dX12_changes_4 : decode cX12_changes 4 = .ok (.iload_n 1, 1) := by decide +kernel
theorem dX12_changes_5 : decode cX12_changes 5 = .ok (.iaload, 1) := by decide +kernel
theorem dX12_changes_6 : decode cX12_changes 6 = .ok (.istore_n 3, 1) := by decide +kernel
theorem dX12_changes_7 : decode cX12_changes 7 = .ok (.aload_n 0, 1) := by decide +kernel
theorem dX12_changes_8 : decode cX12_changes 8 = .ok (.getfield 55, 3) := by decide +kernel
theorem dX12_changes_11 : decode cX12_changes 11 = .ok (.iload_n 1, 1) := by decide +kernel
theorem dX12_changes_12 : decode cX12_changes 12 = .ok (.aload_n 0, 1) := by decide +kernel
theorem dX12_changes_13 : decode cX12_changes 13 = .ok (.getfield 55, 3) := by decide +kernel
theorem dX12_changes_16 : decode cX12_changes 16 = .ok (.iload_n 2, 1) := by decide +kernel
theorem dX12_changes_17 : decode cX12_changes 17 = .ok (.iaload, 1) := by decide +kernel
theorem dX12_changes_18 : decode cX12_changes 18 = .ok (.iastore, 1) := by decide +kernel
theorem dX12_changes_19 : decode cX12_changes 19 = .ok (.aload_n 0, 1) := by decide +kernel
theorem dX12_changes_20 : decode cX12_changes 20 = .ok (.getfield 55, 3) := by decide +kernel
theorem dX12_changes_23 : decode cX12_changes 23 = .ok (.iload_n 2, 1) := by decide +kernel
theorem dX12_changes_24 : decode cX12_changes 24 = .ok (.iload_n 3, 1) := by decide +kernel
theorem dX12_changes_25 : decode cX12_changes 25 = .ok (.iastore, 1) := by decide +kernel
theorem dX12_changes_26 : decode cX12_changes 26 = .ok (.return_, 1) := by decide +kernel
theorem dX12_nextOrder_0 : decode cX12_nextOrder 0 = .ok (.aload_n 0, 1) := by decide +kernel
theorem dX12_nextOrder_1 : decode cX12_nextOrder 1 = .ok (.getfield 208, 3) := by decide +kernel
theorem dX12_nextOrder_4 : decode cX12_nextOrder 4 = .ok (.iconst 2, 1) := by decide +kernel
theorem dX12_nextOrder_5 : decode cX12_nextOrder 5 = .ok (.isub, 1) := by decide +kernel
theorem dX12_nextOrder_6 : decode cX12_nextOrder 6 = .ok (.istore_n 1, 1) := by decide +kernel
theorem dX12_nextOrder_7 : decode cX12_nextOrder 7 = .ok (.iload_n 1, 1) := by decide +kernel
theorem dX12_nextOrder_8 : decode cX12_nextOrder 8 = .ok (.ifCond .lt 26, 3) := by decide +kernel
theorem dX12_nextOrder_11 : decode cX12_nextOrder 11 = .ok (.aload_n 0, 1) := by decide +kernel
theorem dX12_nextOrder_12 : decode cX12_nextOrder 12 = .ok (.getfield 55, 3) := by decide +kernel
theorem dX12_nextOrder_15 : decode cX12_nextOrder 15 = .ok (.iload_n 1, 1) := by decide +kernel
theorem dX12_nextOrder_16 : decode cX12_nextOrder 16 = .ok (.iaload, 1) := by decide +kernel
theorem dX12_nextOrder_17 : decode cX12_nextOrder 17 = .ok (.aload_n 0, 1) := by decide +kernel
theorem dX12_nextOrder_18 : decode cX12_nextOrder 18 = .ok (.getfield 55, 3) := by decide +kernel
theorem dX12_nextOrder_21 : decode cX12_nextOrder 21 = .ok (.iload_n 1, 1) := by decide +kernel
theorem dX12_nextOrder_22 : decode cX12_nextOrder 22 = .ok (.iconst 1, 1) := by decide +kernel
theorem dX12_nextOrder_23 : decode cX12_nextOrder 23 = .ok (.iadd, 1) := by decide +kernel
theorem dX12_nextOrder_24 : decode cX12_nextOrder 24 = .ok (.iaload, 1) := by decide +kernel
theorem dX12_nextOrder_25 : decode cX12_nextOrder 25 = .ok (.if_icmp .le 9, 3) := by decide +kernel
theorem dX12_nextOrder_28 : decode cX12_nextOrder 28 = .ok (.iinc 1 (-1), 3) := by decide +kernel
theorem dX12_nextOrder_31 : decode cX12_nextOrder 31 = .ok (.goto (-24), 3) := by decide +kernel
theorem dX12_nextOrder_34 : decode cX12_nextOrder 34 = .ok (.iload_n 1, 1) := by decide +kernel
theorem dX12_nextOrder_35 : decode cX12_nextOrder 35 = .ok (.ifCond .ge 5, 3) := by decide +kernel
theorem dX12_nextOrder_38 : decode cX12_nextOrder 38 = .ok (.iconst 0, 1) := by decide +kernel
theorem dX12_nextOrder_39 : decode cX12_nextOrder 39 = .ok (.ireturn, 1) := by decide +kernel
theorem dX12_nextOrder_40 : decode cX12_nextOrder 40 = .ok (.aload_n 0, 1) := by decide +kernel
theorem dX12_nextOrder_41 : decode cX12_nextOrder 41 = .ok (.getfield 208, 3) := by decide +kernel
theorem dX12_nextOrder_44 : decode cX12_nextOrder 44 = .ok (.iconst 1, 1) := by decide +kernel
theorem dX12_nextOrder_45 : decode cX12_nextOrder 45 = .ok (.isub, 1) := by decide +kernel
theorem dX12_nextOrder_46 : decode cX12_nextOrder 46 = .ok (.istore_n 2, 1) := by decide +kernel
theorem dX12_nextOrder_47 : decode cX12_nextOrder 47 = .ok (.aload_n 0, 1) := by decide +kernel
theorem dX12_nextOrder_48 : decode cX12_nextOrder 48 = .ok (.getfield 55, 3) := by decide +kernel
theorem dX12_nextOrder_51 : decode cX12_nextOrder 51 = .ok (.iload_n 2, 1) := by decide +kernel
theorem dX12_nextOrder_52 : decode cX12_nextOrder 52 = .ok (.iaload, 1) := by decide +kernel
theorem dX12_nextOrder_53 : decode cX12_nextOrder 53 = .ok (.aload_n 0, 1) := by decide +kernel
theorem dX12_nextOrder_54 : decode cX12_nextOrder 54 = .ok (.getfield 55, 3) := by decide +kernel
theorem dX12_nextOrder_57 : decode cX12_nextOrder 57 = .ok (.iload_n 1, 1) := by decide +kernel
theorem dX12_nextOrder_58 : decode cX12_nextOrder 58 = .ok (.iaload, 1) := by decide +kernel
theorem dX12_nextOrder_59 : decode cX12_nextOrder 59 = .ok (.if_icmp .ge 9, 3) := by decide +kernel
theorem dX12_nextOrder_62 : decode cX12_nextOrder 62 = .ok (.iinc 2 (-1), 3) := by decide +kernel
theorem dX12_nextOrder_65 : decode cX12_nextOrder 65 = .ok (.goto (-18), 3) := by decide +kernel
theorem dX12_nextOrder_68 : decode cX12_nextOrder 68 = .ok (.aload_n 0, 1) := by decide +kernel
theorem dX12_nextOrder_69 : decode cX12_nextOrder 69 = .ok (.iload_n 1, 1) := by decide +kernel
theorem dX12_nextOrder_70 : decode cX12_nextOrder 70 = .ok (.iload_n 2, 1) := by decide +kernel
theorem dX12_nextOrder_71 : decode cX12_nextOrder 71 = .ok (.invokevirtual 251, 3) := by decide +kernel
theorem dX12_nextOrder_74 : decode cX12_nextOrder 74 = .ok (.iload_n 1, 1) := by decide +kernel
theorem dX12_nextOrder_75 : decode cX12_nextOrder 75 = .ok (.iconst 1, 1) := by decide +kernel
theorem dX12_nextOrder_76 : decode cX12_nextOrder 76 = .ok (.iadd, 1) := by decide +kernel
theorem dX12_nextOrder_77 : decode cX12_nextOrder 77 = .ok (.istore_n 3, 1) := by decide +kernel
theorem dX12_nextOrder_78 : decode cX12_nextOrder 78 = .ok (.aload_n 0, 1) := by decide +kernel
theorem dX12_nextOrder_79 : decode cX12_nextOrder 79 = .ok (.getfield 208, 3) := by decide +kernel
theorem dX12_nextOrder_82 : decode cX12_nextOrder 82 = .ok (.iconst 1, 1) := by decide +kernel
theorem dX12_nextOrder_83 : decode cX12_nextOrder 83 = .ok (.isub, 1) := by decide +kernel
theorem dX12_nextOrder_84 : decode cX12_nextOrder 84 = .ok (.istore 4, 2) := by decide +kernel
theorem dX12_nextOrder_86 : decode cX12_nextOrder 86 = .ok (.iload_n 3, 1) := by decide +kernel
theorem dX12_nextOrder_87 : decode cX12_nextOrder 87 = .ok (.iload 4, 2) := by decide +kernel
theorem dX12_nextOrder_89 : decode cX12_nextOrder 89 = .ok (.if_icmp .ge 19, 3) := by decide +kernel
theorem dX12_nextOrder_92 : decode cX12_nextOrder 92 = .ok (.aload_n 0, 1) := by decide +kernel
theorem dX12_nextOrder_93 : decode cX12_nextOrder 93 = .ok (.iload_n 3, 1) := by decide +kernel
theorem dX12_nextOrder_94 : decode cX12_nextOrder 94 = .ok (.iload 4, 2) := by decide +kernel
theorem dX12_nextOrder_96 : decode cX12_nextOrder 96 = .ok (.invokevirtual 251, 3) := by decide +kernel
theorem dX12_nextOrder_99 : decode cX12_nextOrder 99 = .ok (.iinc 3 1, 3) := by decide +kernel
theorem dX12_nextOrder_102 : decode cX12_nextOrder 102 = .ok (.iinc 4 (-1), 3) := by decide +kernel
theorem dX12_nextOrder_105 : decode cX12_nextOrder 105 = .ok (.goto (-19), 3) := by decide +kernel
theorem dX12_nextOrder_108 : decode cX12_nextOrder 108 = .ok (.iconst 1, 1) := by decide +kernel
theorem dX12_nextOrder_109 : decode cX12_nextOrder 109 = .ok (.ireturn, 1) := by decide +kernel
theorem dX12_findBest_0 : decode cX12_findBest 0 = .ok (.aload_n 0, 1) := by decide +kernel
theorem dX12_findBest_1 : decode cX12_findBest 1 = .ok (.aload_n 0, 1) := by decide +kernel
theorem dX12_findBest_2 : decode cX12_findBest 2 = .ok (.getfield 82, 3) := by decide +kernel
theorem dX12_findBest_5 : decode cX12_findBest 5 = .ok (.putfield 208, 3) := by decide +kernel
theorem dX12_findBest_8 : decode cX12_findBest 8 = .ok (.iconst 0, 1) := by decide +kernel
theorem dX12_findBest_9 : decode cX12_findBest 9 = .ok (.istore_n 2, 1) := by decide +kernel
theorem dX12_findBest_10 : decode cX12_findBest 10 = .ok (.iload_n 2, 1) := by decide +kernel
theorem dX12_findBest_11 : decode cX12_findBest 11 = .ok (.aload_n 0, 1) := by decide +kernel
theorem dX12_findBest_12 : decode cX12_findBest 12 = .ok (.getfield 82, 3) := by decide +kernel
theorem dX12_findBest_15 : decode cX12_findBest 15 = .ok (.if_icmp .ge 16, 3) := by decide +kernel
theorem dX12_findBest_18 : decode cX12_findBest 18 = .ok (.aload_n 0, 1) := by decide +kernel
theorem dX12_findBest_19 : decode cX12_findBest 19 = .ok (.getfield 55, 3) := by decide +kernel
theorem dX12_findBest_22 : decode cX12_findBest 22 = .ok (.iload_n 2, 1) := by decide +kernel
theorem dX12_findBest_23 : decode cX12_findBest 23 = .ok (.iload_n 2, 1) := by decide +kernel
theorem dX12_findBest_24 : decode cX12_findBest 24 = .ok (.iastore, 1) := by decide +kernel
theorem dX12_findBest_25 : decode cX12_findBest 25 = .ok (.iinc 2 1, 3) := by decide +kernel
theorem dX12_findBest_28 : decode cX12_findBest 28 = .ok (.goto (-18), 3) := by decide +kernel
theorem dX12_findBest_31 : decode cX12_findBest 31 = .ok (.iconst 0, 1) := by decide +kernel
theorem dX12_findBest_32 : decode cX12_findBest 32 = .ok (.istore_n 2, 1) := by decide +kernel
theorem dX12_findBest_33 : decode cX12_findBest 33 = .ok (.iconst 1, 1) := by decide +kernel
theorem dX12_findBest_34 : decode cX12_findBest 34 = .ok (.istore_n 3, 1) := by decide +kernel
theorem dX12_findBest_35 : decode cX12_findBest 35 = .ok (.iconst 1, 1) := by decide +kernel
theorem dX12_findBest_36 : decode cX12_findBest 36 = .ok (.istore 4, 2) := by decide +kernel
theorem dX12_findBest_38 : decode cX12_findBest 38 = .ok (.iload 4, 2) := by decide +kernel
theorem dX12_findBest_40 : decode cX12_findBest 40 = .ok (.ifCond .eq 98, 3) := by decide +kernel
theorem dX12_findBest_43 : decode cX12_findBest 43 = .ok (.aload_n 0, 1) := by decide +kernel
theorem dX12_findBest_44 : decode cX12_findBest 44 = .ok (.invokevirtual 224, 3) := by decide +kernel
theorem dX12_findBest_47 : decode cX12_findBest 47 = .ok (.istore 5, 2) := by decide +kernel
theorem dX12_findBest_49 : decode cX12_findBest 49 = .ok (.iload_n 1, 1) := by decide +kernel
theorem dX12_findBest_50 : decode cX12_findBest 50 = .ok (.ifCond .ne 8, 3) := by decide +kernel
theorem dX12_findBest_53 : decode cX12_findBest 53 = .ok (.iload 5, 2) := by decide +kernel
theorem dX12_findBest_55 : decode cX12_findBest 55 = .ok (.goto 12, 3) := by decide +kernel
theorem dX12_findBest_58 : decode cX12_findBest 58 = .ok (.aload_n 0, 1) := by decide +kernel
theorem dX12_findBest_59 : decode cX12_findBest 59 = .ok (.aload_n 0, 1) := by decide +kernel
theorem dX12_findBest_60 : decode cX12_findBest 60 = .ok (.iconst 0, 1) := by decide +kernel
theorem dX12_findBest_61 : decode cX12_findBest 61 = .ok (.invokevirtual 236, 3) := by decide +kernel
theorem dX12_findBest_64 : decode cX12_findBest 64 = .ok (.invokevirtual 239, 3) := by decide +kernel
theorem dX12_findBest_67 : decode cX12_findBest 67 = .ok (.istore 6, 2) := by decide +kernel
theorem dX12_findBest_69 : decode cX12_findBest 69 = .ok (.iload_n 3, 1) := by decide +kernel
theorem dX12_findBest_70 : decode cX12_findBest 70 = .ok (.ifCond .ne 22, 3) := by decide +kernel
theorem dX12_findBest_73 : decode cX12_findBest 73 = .ok (.iload_n 1, 1) := by decide +kernel
theorem dX12_findBest_74 : decode cX12_findBest 74 = .ok (.ifCond .ne 12, 3) := by decide +kernel
theorem dX12_findBest_77 : decode cX12_findBest 77 = .ok (.iload 6, 2) := by decide +kernel
theorem dX12_findBest_79 : decode cX12_findBest 79 = .ok (.iload_n 2, 1) := by decide +kernel
theorem dX12_findBest_80 : decode cX12_findBest 80 = .ok (.if_icmp .ge 47, 3) := by decide +kernel
theorem dX12_findBest_83 : decode cX12_findBest 83 = .ok (.goto 9, 3) := by decide +kernel
theorem dX12_findBest_86 : decode cX12_findBest 86 = .ok (.iload 6, 2) := by decide +kernel
theorem dX12_findBest_88 : decode cX12_findBest 88 = .ok (.iload_n 2, 1) := by decide +kernel
theorem dX12_findBest_89 : decode cX12_findBest 89 = .ok (.if_icmp .le 38, 3) := by decide +kernel
theorem dX12_findBest_92 : decode cX12_findBest 92 = .ok (.iload 6, 2) := by decide +kernel
theorem dX12_findBest_94 : decode cX12_findBest 94 = .ok (.istore_n 2, 1) := by decide +kernel
theorem dX12_findBest_95 : decode cX12_findBest 95 = .ok (.iconst 0, 1) := by decide +kernel
theorem dX12_findBest_96 : decode cX12_findBest 96 = .ok (.istore 7, 2) := by decide +kernel
theorem dX12_findBest_98 : decode cX12_findBest 98 = .ok (.iload 7, 2) := by decide +kernel
theorem dX12_findBest_100 : decode cX12_findBest 100 = .ok (.aload_n 0, 1) := by decide +kernel
theorem dX12_findBest_101 : decode cX12_findBest 101 = .ok (.getfield 82, 3) := by decide +kernel
theorem dX12_findBest_104 : decode cX12_findBest 104 = .ok (.if_icmp .ge 23, 3) := by decide +kernel
theorem dX12_findBest_107 : decode cX12_findBest 107 = .ok (.aload_n 0, 1) := by decide +kernel
theorem dX12_findBest_108 : decode cX12_findBest 108 = .ok (.getfield 61, 3) := by decide +kernel
theorem dX12_findBest_111 : decode cX12_findBest 111 = .ok (.iload 7, 2) := by decide +kernel
theorem dX12_findBest_113 : decode cX12_findBest 113 = .ok (.aload_n 0, 1) := by decide +kernel
theorem dX12_findBest_114 : decode cX12_findBest 114 = .ok (.getfield 55, 3) := by decide +kernel
theorem dX12_findBest_117 : decode cX12_findBest 117 = .ok (.iload 7, 2) := by decide +kernel
theorem dX12_findBest_119 : decode cX12_findBest 119 = .ok (.iaload, 1) := by decide +kernel
theorem dX12_findBest_120 : decode cX12_findBest 120 = .ok (.iastore, 1) := by decide +kernel
theorem dX12_findBest_121 : decode cX12_findBest 121 = .ok (.iinc 7 1, 3) := by decide +kernel
theorem dX12_findBest_124 : decode cX12_findBest 124 = .ok (.goto (-26), 3) := by decide +kernel
theorem dX12_findBest_127 : decode cX12_findBest 127 = .ok (.iconst 0, 1) := by decide +kernel
theorem dX12_findBest_128 : decode cX12_findBest 128 = .ok (.istore_n 3, 1) := by decide +kernel
theorem dX12_findBest_129 : decode cX12_findBest 129 = .ok (.aload_n 0, 1) := by decide +kernel
theorem dX12_findBest_130 : decode cX12_findBest 130 = .ok (.invokevirtual 255, 3) := by decide +kernel
theorem dX12_findBest_133 : decode cX12_findBest 133 = .ok (.istore 4, 2) := by decide +kernel
theorem dX12_findBest_135 : decode cX12_findBest 135 = .ok (.goto (-97), 3) := by decide +kernel
theorem dX12_findBest_138 : decode cX12_findBest 138 = .ok (.iload_n 2, 1) := by decide +kernel
theorem dX12_findBest_139 : decode cX12_findBest 139 = .ok (.ireturn, 1) := by decide +kernel
theorem dX12_best_0 : decode cX12_best 0 = .ok (.iload_n 1, 1) := by decide +kernel
theorem dX12_best_1 : decode cX12_best 1 = .ok (.iconst 0, 1) := by decide +kernel
theorem dX12_best_2 : decode cX12_best 2 = .ok (.iconst 1, 1) := by decide +kernel
theorem dX12_best_3 : decode cX12_best 3 = .ok (.invokestatic 92, 3) := by decide +kernel
theorem dX12_best_6 : decode cX12_best 6 = .ok (.ifCond .eq 17, 3) := by decide +kernel
theorem dX12_best_9 : decode cX12_best 9 = .ok (.iload_n 2, 1) := by decide +kernel
theorem dX12_best_10 : decode cX12_best 10 = .ok (.iconst (-1), 1) := by decide +kernel
theorem dX12_best_11 : decode cX12_best 11 = .ok (.aload_n 0, 1) := by decide +kernel
theorem dX12_best_12 : decode cX12_best 12 = .ok (.getfield 82, 3) := by decide +kernel
theorem dX12_best_15 : decode cX12_best 15 = .ok (.iconst 1, 1) := by decide +kernel
theorem dX12_best_16 : decode cX12_best 16 = .ok (.isub, 1) := by decide +kernel
theorem dX12_best_17 : decode cX12_best 17 = .ok (.invokestatic 92, 3) := by decide +kernel
theorem dX12_best_20 : decode cX12_best 20 = .ok (.ifCond .ne 6, 3) := by decide +kernel
theorem dX12_best_23 : decode cX12_best 23 = .ok (.bipush (-2), 2) := by decide +kernel
theorem dX12_best_25 : decode cX12_best 25 = .ok (.ireturn, 1) := by decide +kernel
theorem dX12_best_26 : decode cX12_best 26 = .ok (.aload_n 0, 1) := by decide +kernel
theorem dX12_best_27 : decode cX12_best 27 = .ok (.iload_n 1, 1) := by decide +kernel
theorem dX12_best_28 : decode cX12_best 28 = .ok (.invokevirtual 258, 3) := by decide +kernel
theorem dX12_best_31 : decode cX12_best 31 = .ok (.istore_n 3, 1) := by decide +kernel
theorem dX12_best_32 : decode cX12_best 32 = .ok (.iload_n 2, 1) := by decide +kernel
theorem dX12_best_33 : decode cX12_best 33 = .ok (.iconst (-1), 1) := by decide +kernel
theorem dX12_best_34 : decode cX12_best 34 = .ok (.if_icmp .ne 7, 3) := by decide +kernel
theorem dX12_best_37 : decode cX12_best 37 = .ok (.iload_n 3, 1) := by decide +kernel
theorem dX12_best_38 : decode cX12_best 38 = .ok (.goto 9, 3) := by decide +kernel
theorem dX12_best_41 : decode cX12_best 41 = .ok (.aload_n 0, 1) := by decide +kernel
theorem dX12_best_42 : decode cX12_best 42 = .ok (.getfield 61, 3) := by decide +kernel
theorem dX12_best_45 : decode cX12_best 45 = .ok (.iload_n 2, 1) := by decide +kernel
theorem dX12_best_46 : decode cX12_best 46 = .ok (.iaload, 1) := by decide +kernel
theorem dX12_best_47 : decode cX12_best 47 = .ok (.ireturn, 1) := by decide +kernel
theorem dX12_arrange_0 : decode cX12_arrange 0 = .ok (.iload_n 1, 1) := by decide +kernel
theorem dX12_arrange_1 : decode cX12_arrange 1 = .ok (.iconst 0, 1) := by decide +kernel
theorem dX12_arrange_2 : decode cX12_arrange 2 = .ok (.iconst 1, 1) := by decide +kernel
theorem dX12_arrange_3 : decode cX12_arrange 3 = .ok (.invokestatic 92, 3) := by decide +kernel
theorem dX12_arrange_6 : decode cX12_arrange 6 = .ok (.ifCond .ne 6, 3) := by decide +kernel
theorem dX12_arrange_9 : decode cX12_arrange 9 = .ok (.bipush (-2), 2) := by decide +kernel
theorem dX12_arrange_11 : decode cX12_arrange 11 = .ok (.ireturn, 1) := by decide +kernel
theorem dX12_arrange_12 : decode cX12_arrange 12 = .ok (.aload_n 0, 1) := by decide +kernel
theorem dX12_arrange_13 : decode cX12_arrange 13 = .ok (.iload_n 1, 1) := by decide +kernel
theorem dX12_arrange_14 : decode cX12_arrange 14 = .ok (.invokevirtual 258, 3) := by decide +kernel
theorem dX12_arrange_17 : decode cX12_arrange 17 = .ok (.pop, 1) := by decide +kernel
theorem dX12_arrange_18 : decode cX12_arrange 18 = .ok (.iconst 0, 1) := by decide +kernel
theorem dX12_arrange_19 : decode cX12_arrange 19 = .ok (.istore_n 2, 1) := by decide +kernel
theorem dX12_arrange_20 : decode cX12_arrange 20 = .ok (.iload_n 2, 1) := by decide +kernel
theorem dX12_arrange_21 : decode cX12_arrange 21 = .ok (.aload_n 0, 1) := by decide +kernel
theorem dX12_arrange_22 : decode cX12_arrange 22 = .ok (.getfield 82, 3) := by decide +kernel
theorem dX12_arrange_25 : decode cX12_arrange 25 = .ok (.if_icmp .ge 21, 3) := by decide +kernel
theorem dX12_arrange_28 : decode cX12_arrange 28 = .ok (.aload_n 0, 1) := by decide +kernel
theorem dX12_arrange_29 : decode cX12_arrange 29 = .ok (.getfield 25, 3) := by decide +kernel
theorem dX12_arrange_32 : decode cX12_arrange 32 = .ok (.iload_n 2, 1) := by decide +kernel
theorem dX12_arrange_33 : decode cX12_arrange 33 = .ok (.aload_n 0, 1) := by decide +kernel
theorem dX12_arrange_34 : decode cX12_arrange 34 = .ok (.getfield 61, 3) := by decide +kernel
theorem dX12_arrange_37 : decode cX12_arrange 37 = .ok (.iload_n 2, 1) := by decide +kernel
theorem dX12_arrange_38 : decode cX12_arrange 38 = .ok (.iaload, 1) := by decide +kernel
theorem dX12_arrange_39 : decode cX12_arrange 39 = .ok (.iastore, 1) := by decide +kernel
theorem dX12_arrange_40 : decode cX12_arrange 40 = .ok (.iinc 2 1, 3) := by decide +kernel
theorem dX12_arrange_43 : decode cX12_arrange 43 = .ok (.goto (-23), 3) := by decide +kernel
theorem dX12_arrange_46 : decode cX12_arrange 46 = .ok (.aload_n 0, 1) := by decide +kernel
theorem dX12_arrange_47 : decode cX12_arrange 47 = .ok (.invokevirtual 221, 3) := by decide +kernel
theorem dX12_arrange_50 : decode cX12_arrange 50 = .ok (.aload_n 0, 1) := by decide +kernel
theorem dX12_arrange_51 : decode cX12_arrange 51 = .ok (.invokevirtual 224, 3) := by decide +kernel
theorem dX12_arrange_54 : decode cX12_arrange 54 = .ok (.ireturn, 1) := by decide +kernel
theorem dX12_isAhead_0 : decode cX12_isAhead 0 = .ok (.iload_n 3, 1) := by decide +kernel
theorem dX12_isAhead_1 : decode cX12_isAhead 1 = .ok (.ifCond .ne 33, 3) := by decide +kernel
theorem dX12_isAhead_4 : decode cX12_isAhead 4 = .ok (.aload_n 0, 1) := by decide +kernel
theorem dX12_isAhead_5 : decode cX12_isAhead 5 = .ok (.getfield 19, 3) := by decide +kernel
theorem dX12_isAhead_8 : decode cX12_isAhead 8 = .ok (.iload_n 1, 1) := by decide +kernel
theorem dX12_isAhead_9 : decode cX12_isAhead 9 = .ok (.iaload, 1) := by decide +kernel
theorem dX12_isAhead_10 : decode cX12_isAhead 10 = .ok (.aload_n 0, 1) := by decide +kernel
theorem dX12_isAhead_11 : decode cX12_isAhead 11 = .ok (.getfield 19, 3) := by decide +kernel
theorem dX12_isAhead_14 : decode cX12_isAhead 14 = .ok (.iload_n 2, 1) := by decide +kernel
theorem dX12_isAhead_15 : decode cX12_isAhead 15 = .ok (.iaload, 1) := by decide +kernel
theorem dX12_isAhead_16 : decode cX12_isAhead 16 = .ok (.if_icmp .eq 18, 3) := by decide +kernel
theorem dX12_isAhead_19 : decode cX12_isAhead 19 = .ok (.aload_n 0, 1) := by decide +kernel
theorem dX12_isAhead_20 : decode cX12_isAhead 20 = .ok (.getfield 19, 3) := by decide +kernel
theorem dX12_isAhead_23 : decode cX12_isAhead 23 = .ok (.iload_n 1, 1) := by decide +kernel
theorem dX12_isAhead_24 : decode cX12_isAhead 24 = .ok (.iaload, 1) := by decide +kernel
theorem dX12_isAhead_25 : decode cX12_isAhead 25 = .ok (.ifCond .ne 7, 3) := by decide +kernel
theorem dX12_isAhead_28 : decode cX12_isAhead 28 = .ok (.iconst 1, 1) := by decide +kernel
theorem dX12_isAhead_29 : decode cX12_isAhead 29 = .ok (.goto 4, 3) := by decide +kernel
theorem dX12_isAhead_32 : decode cX12_isAhead 32 = .ok (.iconst 0, 1) := by decide +kernel
theorem dX12_isAhead_33 : decode cX12_isAhead 33 = .ok (.ireturn, 1) := by decide +kernel
theorem dX12_isAhead_34 : decode cX12_isAhead 34 = .ok (.aload_n 0, 1) := by decide +kernel
theorem dX12_isAhead_35 : decode cX12_isAhead 35 = .ok (.getfield 16, 3) := by decide +kernel
theorem dX12_isAhead_38 : decode cX12_isAhead 38 = .ok (.iload_n 1, 1) := by decide +kernel
theorem dX12_isAhead_39 : decode cX12_isAhead 39 = .ok (.iaload, 1) := by decide +kernel
theorem dX12_isAhead_40 : decode cX12_isAhead 40 = .ok (.aload_n 0, 1) := by decide +kernel
theorem dX12_isAhead_41 : decode cX12_isAhead 41 = .ok (.getfield 16, 3) := by decide +kernel
theorem dX12_isAhead_44 : decode cX12_isAhead 44 = .ok (.iload_n 2, 1) := by decide +kernel
theorem dX12_isAhead_45 : decode cX12_isAhead 45 = .ok (.iaload, 1) := by decide +kernel
theorem dX12_isAhead_46 : decode cX12_isAhead 46 = .ok (.if_icmp .ne 14, 3) := by decide +kernel
theorem dX12_isAhead_49 : decode cX12_isAhead 49 = .ok (.iload_n 1, 1) := by decide +kernel
theorem dX12_isAhead_50 : decode cX12_isAhead 50 = .ok (.iload_n 2, 1) := by decide +kernel
theorem dX12_isAhead_51 : decode cX12_isAhead 51 = .ok (.if_icmp .ge 7, 3) := by decide +kernel
theorem dX12_isAhead_54 : decode cX12_isAhead 54 = .ok (.iconst 1, 1) := by decide +kernel
theorem dX12_isAhead_55 : decode cX12_isAhead 55 = .ok (.goto 4, 3) := by decide +kernel
theorem dX12_isAhead_58 : decode cX12_isAhead 58 = .ok (.iconst 0, 1) := by decide +kernel
theorem dX12_isAhead_59 : decode cX12_isAhead 59 = .ok (.ireturn, 1) := by decide +kernel
theorem dX12_isAhead_60 : decode cX12_isAhead 60 = .ok (.aload_n 0, 1) := by decide +kernel
theorem dX12_isAhead_61 : decode cX12_isAhead 61 = .ok (.getfield 16, 3) := by decide +kernel
theorem dX12_isAhead_64 : decode cX12_isAhead 64 = .ok (.iload_n 1, 1) := by decide +kernel
theorem dX12_isAhead_65 : decode cX12_isAhead 65 = .ok (.iaload, 1) := by decide +kernel
theorem dX12_isAhead_66 : decode cX12_isAhead 66 = .ok (.aload_n 0, 1) := by decide +kernel
theorem dX12_isAhead_67 : decode cX12_isAhead 67 = .ok (.getfield 16, 3) := by decide +kernel
theorem dX12_isAhead_70 : decode cX12_isAhead 70 = .ok (.iload_n 2, 1) := by decide +kernel
theorem dX12_isAhead_71 : decode cX12_isAhead 71 = .ok (.iaload, 1) := by decide +kernel
theorem dX12_isAhead_72 : decode cX12_isAhead 72 = .ok (.if_icmp .ge 7, 3) := by decide +kernel
theorem dX12_isAhead_75 : decode cX12_isAhead 75 = .ok (.iconst 1, 1) := by decide +kernel
theorem dX12_isAhead_76 : decode cX12_isAhead 76 = .ok (.goto 4, 3) := by decide +kernel
theorem dX12_isAhead_79 : decode cX12_isAhead 79 = .ok (.iconst 0, 1) := by decide +kernel
theorem dX12_isAhead_80 : decode cX12_isAhead 80 = .ok (.iload_n 3, 1) := by decide +kernel
theorem dX12_isAhead_81 : decode cX12_isAhead 81 = .ok (.ifCond .ne 12, 3) := by decide +kernel
theorem dX12_isAhead_84 : decode cX12_isAhead 84 = .ok (.aload_n 0, 1) := by decide +kernel
theorem dX12_isAhead_85 : decode cX12_isAhead 85 = .ok (.getfield 19, 3) := by decide +kernel
theorem dX12_isAhead_88 : decode cX12_isAhead 88 = .ok (.iload_n 1, 1) := by decide +kernel
theorem dX12_isAhead_89 : decode cX12_isAhead 89 = .ok (.iaload, 1) := by decide +kernel
theorem dX12_isAhead_90 : decode cX12_isAhead 90 = .ok (.ifCond .ne 7, 3) := by decide +kernel
theorem dX12_isAhead_93 : decode cX12_isAhead 93 = .ok (.iconst 1, 1) := by decide +kernel
theorem dX12_isAhead_94 : decode cX12_isAhead 94 = .ok (.goto 4, 3) := by decide +kernel
theorem dX12_isAhead_97 : decode cX12_isAhead 97 = .ok (.iconst 0, 1) := by decide +kernel
theorem dX12_isAhead_98 : decode cX12_isAhead 98 = .ok (.if_icmp .ne 7, 3) := by decide +kernel
theorem dX12_isAhead_101 : decode cX12_isAhead 101 = .ok (.iconst 1, 1) := by decide +kernel
theorem dX12_isAhead_102 : decode cX12_isAhead 102 = .ok (.goto 4, 3) := by decide +kernel
theorem dX12_isAhead_105 : decode cX12_isAhead 105 = .ok (.iconst 0, 1) := by decide +kernel
theorem dX12_isAhead_106 : decode cX12_isAhead 106 = .ok (.ireturn, 1) := by decide +kernel
theorem dX12_ways_0 : decode cX12_ways 0 = .ok (.iload_n 1, 1) := by decide +kernel
theorem dX12_ways_1 : decode cX12_ways 1 = .ok (.iconst 0, 1) := by decide +kernel
theorem dX12_ways_2 : decode cX12_ways 2 = .ok (.iconst 1, 1) := by decide +kernel
theorem dX12_ways_3 : decode cX12_ways 3 = .ok (.invokestatic 92, 3) := by decide +kernel
theorem dX12_ways_6 : decode cX12_ways 6 = .ok (.ifCond .ne 6, 3) := by decide +kernel
theorem dX12_ways_9 : decode cX12_ways 9 = .ok (.bipush (-2), 2) := by decide +kernel
theorem dX12_ways_11 : decode cX12_ways 11 = .ok (.ireturn, 1) := by decide +kernel
theorem dX12_ways_12 : decode cX12_ways 12 = .ok (.aload_n 0, 1) := by decide +kernel
theorem dX12_ways_13 : decode cX12_ways 13 = .ok (.aload_n 0, 1) := by decide +kernel
theorem dX12_ways_14 : decode cX12_ways 14 = .ok (.getfield 82, 3) := by decide +kernel
theorem dX12_ways_17 : decode cX12_ways 17 = .ok (.putfield 208, 3) := by decide +kernel
theorem dX12_ways_20 : decode cX12_ways 20 = .ok (.iconst 0, 1) := by decide +kernel
theorem dX12_ways_21 : decode cX12_ways 21 = .ok (.istore_n 2, 1) := by decide +kernel
theorem dX12_ways_22 : decode cX12_ways 22 = .ok (.iload_n 2, 1) := by decide +kernel
theorem dX12_ways_23 : decode cX12_ways 23 = .ok (.aload_n 0, 1) := by decide +kernel
theorem dX12_ways_24 : decode cX12_ways 24 = .ok (.getfield 82, 3) := by decide +kernel
theorem dX12_ways_27 : decode cX12_ways 27 = .ok (.if_icmp .ge 68, 3) := by decide +kernel
theorem dX12_ways_30 : decode cX12_ways 30 = .ok (.iload_n 2, 1) := by decide +kernel
theorem dX12_ways_31 : decode cX12_ways 31 = .ok (.istore_n 3, 1) := by decide +kernel
theorem dX12_ways_32 : decode cX12_ways 32 = .ok (.iload_n 3, 1) := by decide +kernel
theorem dX12_ways_33 : decode cX12_ways 33 = .ok (.ifCond .le 49, 3) := by decide +kernel
theorem dX12_ways_36 : decode cX12_ways 36 = .ok (.aload_n 0, 1) := by decide +kernel
theorem dX12_ways_37 : decode cX12_ways 37 = .ok (.iload_n 2, 1) := by decide +kernel
theorem dX12_ways_38 : decode cX12_ways 38 = .ok (.aload_n 0, 1) := by decide +kernel
theorem dX12_ways_39 : decode cX12_ways 39 = .ok (.getfield 55, 3) := by decide +kernel
theorem dX12_ways_42 : decode cX12_ways 42 = .ok (.iload_n 3, 1) := by decide +kernel
theorem dX12_ways_43 : decode cX12_ways 43 = .ok (.iconst 1, 1) := by decide +kernel
theorem dX12_ways_44 : decode cX12_ways 44 = .ok (.isub, 1) := by decide +kernel
theorem dX12_ways_45 : decode cX12_ways 45 = .ok (.iaload, 1) := by decide +kernel
theorem dX12_ways_46 : decode cX12_ways 46 = .ok (.iload_n 1, 1) := by decide +kernel
theorem dX12_ways_47 : decode cX12_ways 47 = .ok (.iconst 1, 1) := by decide +kernel
theorem dX12_ways_48 : decode cX12_ways 48 = .ok (.if_icmp .ne 7, 3) := by decide +kernel
theorem dX12_ways_51 : decode cX12_ways 51 = .ok (.iconst 1, 1) := by decide +kernel
theorem dX12_ways_52 : decode cX12_ways 52 = .ok (.goto 4, 3) := by decide +kernel
theorem dX12_ways_55 : decode cX12_ways 55 = .ok (.iconst 0, 1) := by decide +kernel
theorem dX12_ways_56 : decode cX12_ways 56 = .ok (.invokevirtual 261, 3) := by decide +kernel
theorem dX12_ways_59 : decode cX12_ways 59 = .ok (.ifCond .eq 23, 3) := by decide +kernel
theorem dX12_ways_62 : decode cX12_ways 62 = .ok (.aload_n 0, 1) := by decide +kernel
theorem dX12_ways_63 : decode cX12_ways 63 = .ok (.getfield 55, 3) := by decide +kernel
theorem dX12_ways_66 : decode cX12_ways 66 = .ok (.iload_n 3, 1) := by decide +kernel
theorem dX12_ways_67 : decode cX12_ways 67 = .ok (.aload_n 0, 1) := by decide +kernel
theorem dX12_ways_68 : decode cX12_ways 68 = .ok (.getfield 55, 3) := by decide +kernel
theorem dX12_ways_71 : decode cX12_ways 71 = .ok (.iload_n 3, 1) := by decide +kernel
theorem dX12_ways_72 : decode cX12_ways 72 = .ok (.iconst 1, 1) := by decide +kernel
theorem dX12_ways_73 : decode cX12_ways 73 = .ok (.isub, 1) := by decide +kernel
theorem dX12_ways_74 : decode cX12_ways 74 = .ok (.iaload, 1) := by decide +kernel
theorem dX12_ways_75 : decode cX12_ways 75 = .ok (.iastore, 1) := by decide +kernel
theorem dX12_ways_76 : decode cX12_ways 76 = .ok (.iinc 3 (-1), 3) := by decide +kernel
theorem dX12_ways_79 : decode cX12_ways 79 = .ok (.goto (-47), 3) := by decide +kernel
theorem dX12_ways_82 : decode cX12_ways 82 = .ok (.aload_n 0, 1) := by decide +kernel
theorem dX12_ways_83 : decode cX12_ways 83 = .ok (.getfield 55, 3) := by decide +kernel
theorem dX12_ways_86 : decode cX12_ways 86 = .ok (.iload_n 3, 1) := by decide +kernel
theorem dX12_ways_87 : decode cX12_ways 87 = .ok (.iload_n 2, 1) := by decide +kernel
theorem dX12_ways_88 : decode cX12_ways 88 = .ok (.iastore, 1) := by decide +kernel
theorem dX12_ways_89 : decode cX12_ways 89 = .ok (.iinc 2 1, 3) := by decide +kernel
theorem dX12_ways_92 : decode cX12_ways 92 = .ok (.goto (-70), 3) := by decide +kernel
theorem dX12_ways_95 : decode cX12_ways 95 = .ok (.aload_n 0, 1) := by decide +kernel
theorem dX12_ways_96 : decode cX12_ways 96 = .ok (.invokevirtual 224, 3) := by decide +kernel
theorem dX12_ways_99 : decode cX12_ways 99 = .ok (.ireturn, 1) := by decide +kernel
theorem dX12_begin_0 : decode cX12_begin 0 = .ok (.aload_n 0, 1) := by decide +kernel
theorem dX12_begin_1 : decode cX12_begin 1 = .ok (.invokevirtual 221, 3) := by decide +kernel
theorem dX12_begin_4 : decode cX12_begin 4 = .ok (.aload_n 0, 1) := by decide +kernel
theorem dX12_begin_5 : decode cX12_begin 5 = .ok (.getfield 28, 3) := by decide +kernel
theorem dX12_begin_8 : decode cX12_begin 8 = .ok (.iconst 2, 1) := by decide +kernel
theorem dX12_begin_9 : decode cX12_begin 9 = .ok (.iaload, 1) := by decide +kernel
theorem dX12_begin_10 : decode cX12_begin 10 = .ok (.istore_n 1, 1) := by decide +kernel
theorem dX12_begin_11 : decode cX12_begin 11 = .ok (.iconst (-1), 1) := by decide +kernel
theorem dX12_begin_12 : decode cX12_begin 12 = .ok (.istore_n 2, 1) := by decide +kernel
theorem dX12_begin_13 : decode cX12_begin 13 = .ok (.sipush 999, 3) := by decide +kernel
theorem dX12_begin_16 : decode cX12_begin 16 = .ok (.istore_n 3, 1) := by decide +kernel
theorem dX12_begin_17 : decode cX12_begin 17 = .ok (.iload_n 3, 1) := by decide +kernel
theorem dX12_begin_18 : decode cX12_begin 18 = .ok (.ifCond .lt 34, 3) := by decide +kernel
theorem dX12_begin_21 : decode cX12_begin 21 = .ok (.iload_n 2, 1) := by decide +kernel
theorem dX12_begin_22 : decode cX12_begin 22 = .ok (.ifCond .ge 30, 3) := by decide +kernel
theorem dX12_begin_25 : decode cX12_begin 25 = .ok (.aload_n 0, 1) := by decide +kernel
theorem dX12_begin_26 : decode cX12_begin 26 = .ok (.getfield 28, 3) := by decide +kernel
theorem dX12_begin_29 : decode cX12_begin 29 = .ok (.iconst 2, 1) := by decide +kernel
theorem dX12_begin_30 : decode cX12_begin 30 = .ok (.iload_n 3, 1) := by decide +kernel
theorem dX12_begin_31 : decode cX12_begin 31 = .ok (.iastore, 1) := by decide +kernel
theorem dX12_begin_32 : decode cX12_begin 32 = .ok (.aload_n 0, 1) := by decide +kernel
theorem dX12_begin_33 : decode cX12_begin 33 = .ok (.invokevirtual 224, 3) := by decide +kernel
theorem dX12_begin_36 : decode cX12_begin 36 = .ok (.pop, 1) := by decide +kernel
theorem dX12_begin_37 : decode cX12_begin 37 = .ok (.aload_n 0, 1) := by decide +kernel
theorem dX12_begin_38 : decode cX12_begin 38 = .ok (.invokevirtual 233, 3) := by decide +kernel
theorem dX12_begin_41 : decode cX12_begin 41 = .ok (.ifCond .ne 5, 3) := by decide +kernel
theorem dX12_begin_44 : decode cX12_begin 44 = .ok (.iload_n 3, 1) := by decide +kernel
theorem dX12_begin_45 : decode cX12_begin 45 = .ok (.istore_n 2, 1) := by decide +kernel
theorem dX12_begin_46 : decode cX12_begin 46 = .ok (.iinc 3 (-1), 3) := by decide +kernel
theorem dX12_begin_49 : decode cX12_begin 49 = .ok (.goto (-32), 3) := by decide +kernel
theorem dX12_begin_52 : decode cX12_begin 52 = .ok (.aload_n 0, 1) := by decide +kernel
theorem dX12_begin_53 : decode cX12_begin 53 = .ok (.getfield 28, 3) := by decide +kernel
theorem dX12_begin_56 : decode cX12_begin 56 = .ok (.iconst 2, 1) := by decide +kernel
theorem dX12_begin_57 : decode cX12_begin 57 = .ok (.iload_n 1, 1) := by decide +kernel
theorem dX12_begin_58 : decode cX12_begin 58 = .ok (.iastore, 1) := by decide +kernel
theorem dX12_begin_59 : decode cX12_begin 59 = .ok (.iload_n 2, 1) := by decide +kernel
theorem dX12_begin_60 : decode cX12_begin 60 = .ok (.ireturn, 1) := by decide +kernel
theorem dX12_heap_0 : decode cX12_heap 0 = .ok (.iload_n 1, 1) := by decide +kernel
theorem dX12_heap_1 : decode cX12_heap 1 = .ok (.iconst 0, 1) := by decide +kernel
theorem dX12_heap_2 : decode cX12_heap 2 = .ok (.iconst 1, 1) := by decide +kernel
theorem dX12_heap_3 : decode cX12_heap 3 = .ok (.invokestatic 92, 3) := by decide +kernel
theorem dX12_heap_6 : decode cX12_heap 6 = .ok (.ifCond .ne 6, 3) := by decide +kernel
theorem dX12_heap_9 : decode cX12_heap 9 = .ok (.bipush (-2), 2) := by decide +kernel
theorem dX12_heap_11 : decode cX12_heap 11 = .ok (.ireturn, 1) := by decide +kernel
theorem dX12_heap_12 : decode cX12_heap 12 = .ok (.aload_n 0, 1) := by decide +kernel
theorem dX12_heap_13 : decode cX12_heap 13 = .ok (.invokevirtual 221, 3) := by decide +kernel
theorem dX12_heap_16 : decode cX12_heap 16 = .ok (.aload_n 0, 1) := by decide +kernel
theorem dX12_heap_17 : decode cX12_heap 17 = .ok (.getfield 28, 3) := by decide +kernel
theorem dX12_heap_20 : decode cX12_heap 20 = .ok (.iconst 1, 1) := by decide +kernel
theorem dX12_heap_21 : decode cX12_heap 21 = .ok (.iaload, 1) := by decide +kernel
theorem dX12_heap_22 : decode cX12_heap 22 = .ok (.istore_n 2, 1) := by decide +kernel
theorem dX12_heap_23 : decode cX12_heap 23 = .ok (.iconst 0, 1) := by decide +kernel
theorem dX12_heap_24 : decode cX12_heap 24 = .ok (.istore_n 3, 1) := by decide +kernel
theorem dX12_heap_25 : decode cX12_heap 25 = .ok (.iconst 0, 1) := by decide +kernel
theorem dX12_heap_26 : decode cX12_heap 26 = .ok (.istore 4, 2) := by decide +kernel
theorem dX12_heap_28 : decode cX12_heap 28 = .ok (.iconst 0, 1) := by decide +kernel
theorem dX12_heap_29 : decode cX12_heap 29 = .ok (.istore 5, 2) := by decide +kernel
theorem dX12_heap_31 : decode cX12_heap 31 = .ok (.iload 5, 2) := by decide +kernel
theorem dX12_heap_33 : decode cX12_heap 33 = .ok (.bipush 100, 2) := by decide +kernel
theorem dX12_heap_35 : decode cX12_heap 35 = .ok (.if_icmp .ge 45, 3) := by decide +kernel
theorem dX12_heap_38 : decode cX12_heap 38 = .ok (.aload_n 0, 1) := by decide +kernel
theorem dX12_heap_39 : decode cX12_heap 39 = .ok (.getfield 28, 3) := by decide +kernel
theorem dX12_heap_42 : decode cX12_heap 42 = .ok (.iconst 1, 1) := by decide +kernel
theorem dX12_heap_43 : decode cX12_heap 43 = .ok (.iload 5, 2) := by decide +kernel
theorem dX12_heap_45 : decode cX12_heap 45 = .ok (.iastore, 1) := by decide +kernel
theorem dX12_heap_46 : decode cX12_heap 46 = .ok (.aload_n 0, 1) := by decide +kernel
theorem dX12_heap_47 : decode cX12_heap 47 = .ok (.invokevirtual 224, 3) := by decide +kernel
theorem dX12_heap_50 : decode cX12_heap 50 = .ok (.istore 6, 2) := by decide +kernel
theorem dX12_heap_52 : decode cX12_heap 52 = .ok (.iload 5, 2) := by decide +kernel
theorem dX12_heap_54 : decode cX12_heap 54 = .ok (.ifCond .le 13, 3) := by decide +kernel
theorem dX12_heap_57 : decode cX12_heap 57 = .ok (.iload 6, 2) := by decide +kernel
theorem dX12_heap_59 : decode cX12_heap 59 = .ok (.iload 4, 2) := by decide +kernel
theorem dX12_heap_61 : decode cX12_heap 61 = .ok (.if_icmp .lt 6, 3) := by decide +kernel
theorem dX12_heap_64 : decode cX12_heap 64 = .ok (.goto 10, 3) := by decide +kernel
theorem dX12_heap_67 : decode cX12_heap 67 = .ok (.iload 5, 2) := by decide +kernel
theorem dX12_heap_69 : decode cX12_heap 69 = .ok (.istore_n 3, 1) := by decide +kernel
theorem dX12_heap_70 : decode cX12_heap 70 = .ok (.iload 6, 2) := by decide +kernel
theorem dX12_heap_72 : decode cX12_heap 72 = .ok (.istore 4, 2) := by decide +kernel
theorem dX12_heap_74 : decode cX12_heap 74 = .ok (.iinc 5 1, 3) := by decide +kernel
theorem dX12_heap_77 : decode cX12_heap 77 = .ok (.goto (-46), 3) := by decide +kernel
theorem dX12_heap_80 : decode cX12_heap 80 = .ok (.aload_n 0, 1) := by decide +kernel
theorem dX12_heap_81 : decode cX12_heap 81 = .ok (.getfield 28, 3) := by decide +kernel
theorem dX12_heap_84 : decode cX12_heap 84 = .ok (.iconst 1, 1) := by decide +kernel
theorem dX12_heap_85 : decode cX12_heap 85 = .ok (.iload_n 2, 1) := by decide +kernel
theorem dX12_heap_86 : decode cX12_heap 86 = .ok (.iastore, 1) := by decide +kernel
theorem dX12_heap_87 : decode cX12_heap 87 = .ok (.iload_n 1, 1) := by decide +kernel
theorem dX12_heap_88 : decode cX12_heap 88 = .ok (.ifCond .ne 7, 3) := by decide +kernel
theorem dX12_heap_91 : decode cX12_heap 91 = .ok (.iload_n 3, 1) := by decide +kernel
theorem dX12_heap_92 : decode cX12_heap 92 = .ok (.goto 5, 3) := by decide +kernel
theorem dX12_heap_95 : decode cX12_heap 95 = .ok (.iload 4, 2) := by decide +kernel
theorem dX12_heap_97 : decode cX12_heap 97 = .ok (.ireturn, 1) := by decide +kernel
theorem dX12_endsPart_0 : decode cX12_endsPart 0 = .ok (.aload_n 0, 1) := by decide +kernel
theorem dX12_endsPart_1 : decode cX12_endsPart 1 = .ok (.iload_n 2, 1) := by decide +kernel
theorem dX12_endsPart_2 : decode cX12_endsPart 2 = .ok (.putfield 208, 3) := by decide +kernel
theorem dX12_endsPart_5 : decode cX12_endsPart 5 = .ok (.iconst 0, 1) := by decide +kernel
theorem dX12_endsPart_6 : decode cX12_endsPart 6 = .ok (.istore_n 3, 1) := by decide +kernel
theorem dX12_endsPart_7 : decode cX12_endsPart 7 = .ok (.iload_n 3, 1) := by decide +kernel
theorem dX12_endsPart_8 : decode cX12_endsPart 8 = .ok (.iload_n 2, 1) := by decide +kernel
theorem dX12_endsPart_9 : decode cX12_endsPart 9 = .ok (.if_icmp .ge 23, 3) := by decide +kernel
theorem dX12_endsPart_12 : decode cX12_endsPart 12 = .ok (.aload_n 0, 1) := by decide +kernel
theorem dX12_endsPart_13 : decode cX12_endsPart 13 = .ok (.getfield 55, 3) := by decide +kernel
theorem dX12_endsPart_16 : decode cX12_endsPart 16 = .ok (.iload_n 3, 1) := by decide +kernel
theorem dX12_endsPart_17 : decode cX12_endsPart 17 = .ok (.aload_n 0, 1) := by decide +kernel
theorem dX12_endsPart_18 : decode cX12_endsPart 18 = .ok (.getfield 25, 3) := by decide +kernel
theorem dX12_endsPart_21 : decode cX12_endsPart 21 = .ok (.iload_n 1, 1) := by decide +kernel
theorem dX12_endsPart_22 : decode cX12_endsPart 22 = .ok (.iload_n 3, 1) := by decide +kernel
theorem dX12_endsPart_23 : decode cX12_endsPart 23 = .ok (.iadd, 1) := by decide +kernel
theorem dX12_endsPart_24 : decode cX12_endsPart 24 = .ok (.iaload, 1) := by decide +kernel
theorem dX12_endsPart_25 : decode cX12_endsPart 25 = .ok (.iastore, 1) := by decide +kernel
theorem dX12_endsPart_26 : decode cX12_endsPart 26 = .ok (.iinc 3 1, 3) := by decide +kernel
theorem dX12_endsPart_29 : decode cX12_endsPart 29 = .ok (.goto (-22), 3) := by decide +kernel
theorem dX12_endsPart_32 : decode cX12_endsPart 32 = .ok (.aload_n 0, 1) := by decide +kernel
theorem dX12_endsPart_33 : decode cX12_endsPart 33 = .ok (.invokevirtual 224, 3) := by decide +kernel
theorem dX12_endsPart_36 : decode cX12_endsPart 36 = .ok (.ireturn, 1) := by decide +kernel
theorem dX12_split_0 : decode cX12_split 0 = .ok (.iload_n 1, 1) := by decide +kernel
theorem dX12_split_1 : decode cX12_split 1 = .ok (.iconst 0, 1) := by decide +kernel
theorem dX12_split_2 : decode cX12_split 2 = .ok (.iconst 1, 1) := by decide +kernel
theorem dX12_split_3 : decode cX12_split 3 = .ok (.invokestatic 92, 3) := by decide +kernel
theorem dX12_split_6 : decode cX12_split 6 = .ok (.ifCond .ne 6, 3) := by decide +kernel
theorem dX12_split_9 : decode cX12_split 9 = .ok (.bipush (-2), 2) := by decide +kernel
theorem dX12_split_11 : decode cX12_split 11 = .ok (.ireturn, 1) := by decide +kernel
theorem dX12_split_12 : decode cX12_split 12 = .ok (.iconst 0, 1) := by decide +kernel
theorem dX12_split_13 : decode cX12_split 13 = .ok (.istore_n 2, 1) := by decide +kernel
theorem dX12_split_14 : decode cX12_split 14 = .ok (.iconst 0, 1) := by decide +kernel
theorem dX12_split_15 : decode cX12_split 15 = .ok (.istore_n 3, 1) := by decide +kernel
theorem dX12_split_16 : decode cX12_split 16 = .ok (.iconst 0, 1) := by decide +kernel
theorem dX12_split_17 : decode cX12_split 17 = .ok (.istore 4, 2) := by decide +kernel
theorem dX12_split_19 : decode cX12_split 19 = .ok (.iload 4, 2) := by decide +kernel
theorem dX12_split_21 : decode cX12_split 21 = .ok (.aload_n 0, 1) := by decide +kernel
theorem dX12_split_22 : decode cX12_split 22 = .ok (.getfield 82, 3) := by decide +kernel
theorem dX12_split_25 : decode cX12_split 25 = .ok (.if_icmp .gt 69, 3) := by decide +kernel
theorem dX12_split_28 : decode cX12_split 28 = .ok (.aload_n 0, 1) := by decide +kernel
theorem dX12_split_29 : decode cX12_split 29 = .ok (.iconst 0, 1) := by decide +kernel
theorem dX12_split_30 : decode cX12_split 30 = .ok (.iload 4, 2) := by decide +kernel
theorem dX12_split_32 : decode cX12_split 32 = .ok (.invokevirtual 265, 3) := by decide +kernel
theorem dX12_split_35 : decode cX12_split 35 = .ok (.istore 5, 2) := by decide +kernel
theorem dX12_split_37 : decode cX12_split 37 = .ok (.aload_n 0, 1) := by decide +kernel
theorem dX12_split_38 : decode cX12_split 38 = .ok (.iload 4, 2) := by decide +kernel
theorem dX12_split_40 : decode cX12_split 40 = .ok (.aload_n 0, 1) := by decide +kernel
theorem dX12_split_41 : decode cX12_split 41 = .ok (.getfield 82, 3) := by decide +kernel
theorem dX12_split_44 : decode cX12_split 44 = .ok (.iload 4, 2) := by decide +kernel
theorem dX12_split_46 : decode cX12_split 46 = .ok (.isub, 1) := by decide +kernel
theorem dX12_split_47 : decode cX12_split 47 = .ok (.invokevirtual 265, 3) := by decide +kernel
theorem dX12_split_50 : decode cX12_split 50 = .ok (.istore 6, 2) := by decide +kernel
theorem dX12_split_52 : decode cX12_split 52 = .ok (.iload 5, 2) := by decide +kernel
theorem dX12_split_54 : decode cX12_split 54 = .ok (.iload 6, 2) := by decide +kernel
theorem dX12_split_56 : decode cX12_split 56 = .ok (.if_icmp .le 8, 3) := by decide +kernel
theorem dX12_split_59 : decode cX12_split 59 = .ok (.iload 5, 2) := by decide +kernel
theorem dX12_split_61 : decode cX12_split 61 = .ok (.goto 5, 3) := by decide +kernel
theorem dX12_split_64 : decode cX12_split 64 = .ok (.iload 6, 2) := by decide +kernel
theorem dX12_split_66 : decode cX12_split 66 = .ok (.istore 7, 2) := by decide +kernel
theorem dX12_split_68 : decode cX12_split 68 = .ok (.iload 4, 2) := by decide +kernel
theorem dX12_split_70 : decode cX12_split 70 = .ok (.ifCond .le 12, 3) := by decide +kernel
theorem dX12_split_73 : decode cX12_split 73 = .ok (.iload 7, 2) := by decide +kernel
theorem dX12_split_75 : decode cX12_split 75 = .ok (.iload_n 3, 1) := by decide +kernel
theorem dX12_split_76 : decode cX12_split 76 = .ok (.if_icmp .lt 6, 3) := by decide +kernel
theorem dX12_split_79 : decode cX12_split 79 = .ok (.goto 9, 3) := by decide +kernel
theorem dX12_split_82 : decode cX12_split 82 = .ok (.iload 4, 2) := by decide +kernel
theorem dX12_split_84 : decode cX12_split 84 = .ok (.istore_n 2, 1) := by decide +kernel
theorem dX12_split_85 : decode cX12_split 85 = .ok (.iload 7, 2) := by decide +kernel
theorem dX12_split_87 : decode cX12_split 87 = .ok (.istore_n 3, 1) := by decide +kernel
theorem dX12_split_88 : decode cX12_split 88 = .ok (.iinc 4 1, 3) := by decide +kernel
theorem dX12_split_91 : decode cX12_split 91 = .ok (.goto (-72), 3) := by decide +kernel
theorem dX12_split_94 : decode cX12_split 94 = .ok (.iload_n 1, 1) := by decide +kernel
theorem dX12_split_95 : decode cX12_split 95 = .ok (.ifCond .ne 7, 3) := by decide +kernel
theorem dX12_split_98 : decode cX12_split 98 = .ok (.iload_n 2, 1) := by decide +kernel
theorem dX12_split_99 : decode cX12_split 99 = .ok (.goto 4, 3) := by decide +kernel
theorem dX12_split_102 : decode cX12_split 102 = .ok (.iload_n 3, 1) := by decide +kernel
theorem dX12_split_103 : decode cX12_split 103 = .ok (.ireturn, 1) := by decide +kernel
theorem dX12_endsWithout_0 : decode cX12_endsWithout 0 = .ok (.aload_n 0, 1) := by decide +kernel
theorem dX12_endsWithout_1 : decode cX12_endsWithout 1 = .ok (.iconst 0, 1) := by decide +kernel
theorem dX12_endsWithout_2 : decode cX12_endsWithout 2 = .ok (.putfield 208, 3) := by decide +kernel
theorem dX12_endsWithout_5 : decode cX12_endsWithout 5 = .ok (.iconst 0, 1) := by decide +kernel
theorem dX12_endsWithout_6 : decode cX12_endsWithout 6 = .ok (.istore_n 2, 1) := by decide +kernel
theorem dX12_endsWithout_7 : decode cX12_endsWithout 7 = .ok (.iload_n 2, 1) := by decide +kernel
theorem dX12_endsWithout_8 : decode cX12_endsWithout 8 = .ok (.aload_n 0, 1) := by decide +kernel
theorem dX12_endsWithout_9 : decode cX12_endsWithout 9 = .ok (.getfield 82, 3) := by decide +kernel
theorem dX12_endsWithout_12 : decode cX12_endsWithout 12 = .ok (.if_icmp .ge 51, 3) := by decide +kernel
theorem dX12_endsWithout_15 : decode cX12_endsWithout 15 = .ok (.iload_n 1, 1) := by decide +kernel
theorem dX12_endsWithout_16 : decode cX12_endsWithout 16 = .ok (.aload_n 0, 1) := by decide +kernel
theorem dX12_endsWithout_17 : decode cX12_endsWithout 17 = .ok (.getfield 25, 3) := by decide +kernel
theorem dX12_endsWithout_20 : decode cX12_endsWithout 20 = .ok (.iload_n 2, 1) := by decide +kernel
theorem dX12_endsWithout_21 : decode cX12_endsWithout 21 = .ok (.iaload, 1) := by decide +kernel
theorem dX12_endsWithout_22 : decode cX12_endsWithout 22 = .ok (.ishr, 1) := by decide +kernel
theorem dX12_endsWithout_23 : decode cX12_endsWithout 23 = .ok (.iconst 1, 1) := by decide +kernel
theorem dX12_endsWithout_24 : decode cX12_endsWithout 24 = .ok (.iand, 1) := by decide +kernel
theorem dX12_endsWithout_25 : decode cX12_endsWithout 25 = .ok (.iconst 1, 1) := by decide +kernel
theorem dX12_endsWithout_26 : decode cX12_endsWithout 26 = .ok (.if_icmp .ne 6, 3) := by decide +kernel
theorem dX12_endsWithout_29 : decode cX12_endsWithout 29 = .ok (.goto 28, 3) := by decide +kernel
theorem dX12_endsWithout_32 : decode cX12_endsWithout 32 = .ok (.aload_n 0, 1) := by decide +kernel
theorem dX12_endsWithout_33 : decode cX12_endsWithout 33 = .ok (.getfield 55, 3) := by decide +kernel
theorem dX12_endsWithout_36 : decode cX12_endsWithout 36 = .ok (.aload_n 0, 1) := by decide +kernel
theorem dX12_endsWithout_37 : decode cX12_endsWithout 37 = .ok (.getfield 208, 3) := by decide +kernel
theorem dX12_endsWithout_40 : decode cX12_endsWithout 40 = .ok (.aload_n 0, 1) := by decide +kernel
theorem dX12_endsWithout_41 : decode cX12_endsWithout 41 = .ok (.getfield 25, 3) := by decide +kernel
theorem dX12_endsWithout_44 : decode cX12_endsWithout 44 = .ok (.iload_n 2, 1) := by decide +kernel
theorem dX12_endsWithout_45 : decode cX12_endsWithout 45 = .ok (.iaload, 1) := by decide +kernel
theorem dX12_endsWithout_46 : decode cX12_endsWithout 46 = .ok (.iastore, 1) := by decide +kernel
theorem dX12_endsWithout_47 : decode cX12_endsWithout 47 = .ok (.aload_n 0, 1) := by decide +kernel
theorem dX12_endsWithout_48 : decode cX12_endsWithout 48 = .ok (.dup, 1) := by decide +kernel
theorem dX12_endsWithout_49 : decode cX12_endsWithout 49 = .ok (.getfield 208, 3) := by decide +kernel
theorem dX12_endsWithout_52 : decode cX12_endsWithout 52 = .ok (.iconst 1, 1) := by decide +kernel
theorem dX12_endsWithout_53 : decode cX12_endsWithout 53 = .ok (.iadd, 1) := by decide +kernel
theorem dX12_endsWithout_54 : decode cX12_endsWithout 54 = .ok (.putfield 208, 3) := by decide +kernel
theorem dX12_endsWithout_57 : decode cX12_endsWithout 57 = .ok (.iinc 2 1, 3) := by decide +kernel
theorem dX12_endsWithout_60 : decode cX12_endsWithout 60 = .ok (.goto (-53), 3) := by decide +kernel
theorem dX12_endsWithout_63 : decode cX12_endsWithout 63 = .ok (.aload_n 0, 1) := by decide +kernel
theorem dX12_endsWithout_64 : decode cX12_endsWithout 64 = .ok (.invokevirtual 224, 3) := by decide +kernel
theorem dX12_endsWithout_67 : decode cX12_endsWithout 67 = .ok (.ireturn, 1) := by decide +kernel
theorem dX12_drop_0 : decode cX12_drop 0 = .ok (.aload_n 0, 1) := by decide +kernel
theorem dX12_drop_1 : decode cX12_drop 1 = .ok (.iload_n 1, 1) := by decide +kernel
theorem dX12_drop_2 : decode cX12_drop 2 = .ok (.invokevirtual 187, 3) := by decide +kernel
theorem dX12_drop_5 : decode cX12_drop 5 = .ok (.ifCond .eq 13, 3) := by decide +kernel
theorem dX12_drop_8 : decode cX12_drop 8 = .ok (.aload_n 0, 1) := by decide +kernel
theorem dX12_drop_9 : decode cX12_drop 9 = .ok (.iconst 1, 1) := by decide +kernel
theorem dX12_drop_10 : decode cX12_drop 10 = .ok (.iload_n 1, 1) := by decide +kernel
theorem dX12_drop_11 : decode cX12_drop 11 = .ok (.ishl, 1) := by decide +kernel
theorem dX12_drop_12 : decode cX12_drop 12 = .ok (.invokevirtual 268, 3) := by decide +kernel
theorem dX12_drop_15 : decode cX12_drop 15 = .ok (.goto 5, 3) := by decide +kernel
theorem dX12_drop_18 : decode cX12_drop 18 = .ok (.bipush (-2), 2) := by decide +kernel
theorem dX12_drop_20 : decode cX12_drop 20 = .ok (.ireturn, 1) := by decide +kernel
theorem dX12_away_0 : decode cX12_away 0 = .ok (.iload_n 1, 1) := by decide +kernel
theorem dX12_away_1 : decode cX12_away 1 = .ok (.iconst 0, 1) := by decide +kernel
theorem dX12_away_2 : decode cX12_away 2 = .ok (.iconst 1, 1) := by decide +kernel
theorem dX12_away_3 : decode cX12_away 3 = .ok (.aload_n 0, 1) := by decide +kernel
theorem dX12_away_4 : decode cX12_away 4 = .ok (.getfield 82, 3) := by decide +kernel
theorem dX12_away_7 : decode cX12_away 7 = .ok (.ishl, 1) := by decide +kernel
theorem dX12_away_8 : decode cX12_away 8 = .ok (.iconst 1, 1) := by decide +kernel
theorem dX12_away_9 : decode cX12_away 9 = .ok (.isub, 1) := by decide +kernel
theorem dX12_away_10 : decode cX12_away 10 = .ok (.invokestatic 92, 3) := by decide +kernel
theorem dX12_away_13 : decode cX12_away 13 = .ok (.ifCond .eq 12, 3) := by decide +kernel
theorem dX12_away_16 : decode cX12_away 16 = .ok (.iload_n 2, 1) := by decide +kernel
theorem dX12_away_17 : decode cX12_away 17 = .ok (.iconst 0, 1) := by decide +kernel
theorem dX12_away_18 : decode cX12_away 18 = .ok (.iconst 1, 1) := by decide +kernel
theorem dX12_away_19 : decode cX12_away 19 = .ok (.invokestatic 92, 3) := by decide +kernel
theorem dX12_away_22 : decode cX12_away 22 = .ok (.ifCond .ne 6, 3) := by decide +kernel
theorem dX12_away_25 : decode cX12_away 25 = .ok (.bipush (-2), 2) := by decide +kernel
theorem dX12_away_27 : decode cX12_away 27 = .ok (.ireturn, 1) := by decide +kernel
theorem dX12_away_28 : decode cX12_away 28 = .ok (.iload_n 2, 1) := by decide +kernel
theorem dX12_away_29 : decode cX12_away 29 = .ok (.ifCond .ne 9, 3) := by decide +kernel
theorem dX12_away_32 : decode cX12_away 32 = .ok (.aload_n 0, 1) := by decide +kernel
theorem dX12_away_33 : decode cX12_away 33 = .ok (.iload_n 1, 1) := by decide +kernel
theorem dX12_away_34 : decode cX12_away 34 = .ok (.invokevirtual 268, 3) := by decide +kernel
theorem dX12_away_37 : decode cX12_away 37 = .ok (.ireturn, 1) := by decide +kernel
theorem dX12_away_38 : decode cX12_away 38 = .ok (.iconst 0, 1) := by decide +kernel
theorem dX12_away_39 : decode cX12_away 39 = .ok (.istore_n 3, 1) := by decide +kernel
theorem dX12_away_40 : decode cX12_away 40 = .ok (.iconst 0, 1) := by decide +kernel
theorem dX12_away_41 : decode cX12_away 41 = .ok (.istore 4, 2) := by decide +kernel
theorem dX12_away_43 : decode cX12_away 43 = .ok (.iload 4, 2) := by decide +kernel
theorem dX12_away_45 : decode cX12_away 45 = .ok (.aload_n 0, 1) := by decide +kernel
theorem dX12_away_46 : decode cX12_away 46 = .ok (.getfield 82, 3) := by decide +kernel
theorem dX12_away_49 : decode cX12_away 49 = .ok (.if_icmp .ge 25, 3) := by decide +kernel
theorem dX12_away_52 : decode cX12_away 52 = .ok (.iload_n 3, 1) := by decide +kernel
theorem dX12_away_53 : decode cX12_away 53 = .ok (.iload_n 1, 1) := by decide +kernel
theorem dX12_away_54 : decode cX12_away 54 = .ok (.iload 4, 2) := by decide +kernel
theorem dX12_away_56 : decode cX12_away 56 = .ok (.ishr, 1) := by decide +kernel
theorem dX12_away_57 : decode cX12_away 57 = .ok (.iconst 1, 1) := by decide +kernel
theorem dX12_away_58 : decode cX12_away 58 = .ok (.iand, 1) := by decide +kernel
theorem dX12_away_59 : decode cX12_away 59 = .ok (.aload_n 0, 1) := by decide +kernel
theorem dX12_away_60 : decode cX12_away 60 = .ok (.iload 4, 2) := by decide +kernel
theorem dX12_away_62 : decode cX12_away 62 = .ok (.invokevirtual 181, 3) := by decide +kernel
theorem dX12_away_65 : decode cX12_away 65 = .ok (.imul, 1) := by decide +kernel
theorem dX12_away_66 : decode cX12_away 66 = .ok (.iadd, 1) := by decide +kernel
theorem dX12_away_67 : decode cX12_away 67 = .ok (.istore_n 3, 1) := by decide +kernel
theorem dX12_away_68 : decode cX12_away 68 = .ok (.iinc 4 1, 3) := by decide +kernel
theorem dX12_away_71 : decode cX12_away 71 = .ok (.goto (-28), 3) := by decide +kernel
theorem dX12_away_74 : decode cX12_away 74 = .ok (.iload_n 3, 1) := by decide +kernel
theorem dX12_away_75 : decode cX12_away 75 = .ok (.ireturn, 1) := by decide +kernel
theorem dX12_judge_0 : decode cX12_judge 0 = .ok (.iload_n 1, 1) := by decide +kernel
theorem dX12_judge_1 : decode cX12_judge 1 = .ok (.invokestatic 245, 3) := by decide +kernel
theorem dX12_judge_4 : decode cX12_judge 4 = .ok (.ifCond .ne 6, 3) := by decide +kernel
theorem dX12_judge_7 : decode cX12_judge 7 = .ok (.bipush (-2), 2) := by decide +kernel
theorem dX12_judge_9 : decode cX12_judge 9 = .ok (.ireturn, 1) := by decide +kernel
theorem dX12_judge_10 : decode cX12_judge 10 = .ok (.aload_n 0, 1) := by decide +kernel
theorem dX12_judge_11 : decode cX12_judge 11 = .ok (.getfield 67, 3) := by decide +kernel
theorem dX12_judge_14 : decode cX12_judge 14 = .ok (.iload_n 1, 1) := by decide +kernel
theorem dX12_judge_15 : decode cX12_judge 15 = .ok (.iaload, 1) := by decide +kernel
theorem dX12_judge_16 : decode cX12_judge 16 = .ok (.ifCond .ge 6, 3) := by decide +kernel
theorem dX12_judge_19 : decode cX12_judge 19 = .ok (.bipush (-11), 2) := by decide +kernel
theorem dX12_judge_21 : decode cX12_judge 21 = .ok (.ireturn, 1) := by decide +kernel
theorem dX12_judge_22 : decode cX12_judge 22 = .ok (.aload_n 0, 1) := by decide +kernel
theorem dX12_judge_23 : decode cX12_judge 23 = .ok (.getfield 70, 3) := by decide +kernel
theorem dX12_judge_26 : decode cX12_judge 26 = .ok (.iload_n 1, 1) := by decide +kernel
theorem dX12_judge_27 : decode cX12_judge 27 = .ok (.iaload, 1) := by decide +kernel
theorem dX12_judge_28 : decode cX12_judge 28 = .ok (.aload_n 0, 1) := by decide +kernel
theorem dX12_judge_29 : decode cX12_judge 29 = .ok (.getfield 82, 3) := by decide +kernel
theorem dX12_judge_32 : decode cX12_judge 32 = .ok (.if_icmp .eq 6, 3) := by decide +kernel
theorem dX12_judge_35 : decode cX12_judge 35 = .ok (.bipush (-2), 2) := by decide +kernel
theorem dX12_judge_37 : decode cX12_judge 37 = .ok (.ireturn, 1) := by decide +kernel
theorem dX12_judge_38 : decode cX12_judge 38 = .ok (.aload_n 0, 1) := by decide +kernel
theorem dX12_judge_39 : decode cX12_judge 39 = .ok (.invokevirtual 221, 3) := by decide +kernel
theorem dX12_judge_42 : decode cX12_judge 42 = .ok (.aload_n 0, 1) := by decide +kernel
theorem dX12_judge_43 : decode cX12_judge 43 = .ok (.invokevirtual 224, 3) := by decide +kernel
theorem dX12_judge_46 : decode cX12_judge 46 = .ok (.pop, 1) := by decide +kernel
theorem dX12_judge_47 : decode cX12_judge 47 = .ok (.iconst 0, 1) := by decide +kernel
theorem dX12_judge_48 : decode cX12_judge 48 = .ok (.istore_n 2, 1) := by decide +kernel
theorem dX12_judge_49 : decode cX12_judge 49 = .ok (.iload_n 2, 1) := by decide +kernel
theorem dX12_judge_50 : decode cX12_judge 50 = .ok (.aload_n 0, 1) := by decide +kernel
theorem dX12_judge_51 : decode cX12_judge 51 = .ok (.getfield 82, 3) := by decide +kernel
theorem dX12_judge_54 : decode cX12_judge 54 = .ok (.if_icmp .ge 36, 3) := by decide +kernel
theorem dX12_judge_57 : decode cX12_judge 57 = .ok (.aload_n 0, 1) := by decide +kernel
theorem dX12_judge_58 : decode cX12_judge 58 = .ok (.getfield 73, 3) := by decide +kernel
theorem dX12_judge_61 : decode cX12_judge 61 = .ok (.bipush 40, 2) := by decide +kernel
theorem dX12_judge_63 : decode cX12_judge 63 = .ok (.iload_n 1, 1) := by decide +kernel
theorem dX12_judge_64 : decode cX12_judge 64 = .ok (.imul, 1) := by decide +kernel
theorem dX12_judge_65 : decode cX12_judge 65 = .ok (.iload_n 2, 1) := by decide +kernel
theorem dX12_judge_66 : decode cX12_judge 66 = .ok (.iadd, 1) := by decide +kernel
theorem dX12_judge_67 : decode cX12_judge 67 = .ok (.iaload, 1) := by decide +kernel
theorem dX12_judge_68 : decode cX12_judge 68 = .ok (.aload_n 0, 1) := by decide +kernel
theorem dX12_judge_69 : decode cX12_judge 69 = .ok (.getfield 58, 3) := by decide +kernel
theorem dX12_judge_72 : decode cX12_judge 72 = .ok (.aload_n 0, 1) := by decide +kernel
theorem dX12_judge_73 : decode cX12_judge 73 = .ok (.getfield 25, 3) := by decide +kernel
theorem dX12_judge_76 : decode cX12_judge 76 = .ok (.iload_n 2, 1) := by decide +kernel
theorem dX12_judge_77 : decode cX12_judge 77 = .ok (.iaload, 1) := by decide +kernel
theorem dX12_judge_78 : decode cX12_judge 78 = .ok (.iaload, 1) := by decide +kernel
theorem dX12_judge_79 : decode cX12_judge 79 = .ok (.if_icmp .eq 5, 3) := by decide +kernel
theorem dX12_judge_82 : decode cX12_judge 82 = .ok (.iload_n 2, 1) := by decide +kernel
theorem dX12_judge_83 : decode cX12_judge 83 = .ok (.ireturn, 1) := by decide +kernel
theorem dX12_judge_84 : decode cX12_judge 84 = .ok (.iinc 2 1, 3) := by decide +kernel
theorem dX12_judge_87 : decode cX12_judge 87 = .ok (.goto (-38), 3) := by decide +kernel
theorem dX12_judge_90 : decode cX12_judge 90 = .ok (.iconst (-1), 1) := by decide +kernel
theorem dX12_judge_91 : decode cX12_judge 91 = .ok (.ireturn, 1) := by decide +kernel
theorem dX12_rightBy_0 : decode cX12_rightBy 0 = .ok (.iload_n 1, 1) := by decide +kernel
theorem dX12_rightBy_1 : decode cX12_rightBy 1 = .ok (.istore_n 3, 1) := by decide +kernel
theorem dX12_rightBy_2 : decode cX12_rightBy 2 = .ok (.iconst 0, 1) := by decide +kernel
theorem dX12_rightBy_3 : decode cX12_rightBy 3 = .ok (.istore 4, 2) := by decide +kernel
theorem dX12_rightBy_5 : decode cX12_rightBy 5 = .ok (.iconst 0, 1) := by decide +kernel
theorem dX12_rightBy_6 : decode cX12_rightBy 6 = .ok (.istore 5, 2) := by decide +kernel
theorem dX12_rightBy_8 : decode cX12_rightBy 8 = .ok (.iload 5, 2) := by decide +kernel
theorem dX12_rightBy_10 : decode cX12_rightBy 10 = .ok (.aload_n 0, 1) := by decide +kernel
theorem dX12_rightBy_11 : decode cX12_rightBy 11 = .ok (.getfield 82, 3) := by decide +kernel
theorem dX12_rightBy_14 : decode cX12_rightBy 14 = .ok (.if_icmp .ge 40, 3) := by decide +kernel
theorem dX12_rightBy_17 : decode cX12_rightBy 17 = .ok (.iload_n 3, 1) := by decide +kernel
theorem dX12_rightBy_18 : decode cX12_rightBy 18 = .ok (.ldc_w 271, 3) := by decide +kernel
theorem dX12_rightBy_21 : decode cX12_rightBy 21 = .ok (.imul, 1) := by decide +kernel
theorem dX12_rightBy_22 : decode cX12_rightBy 22 = .ok (.sipush 12345, 3) := by decide +kernel
theorem dX12_rightBy_25 : decode cX12_rightBy 25 = .ok (.iadd, 1) := by decide +kernel
theorem dX12_rightBy_26 : decode cX12_rightBy 26 = .ok (.istore_n 3, 1) := by decide +kernel
theorem dX12_rightBy_27 : decode cX12_rightBy 27 = .ok (.iload 4, 2) := by decide +kernel
theorem dX12_rightBy_29 : decode cX12_rightBy 29 = .ok (.iload_n 3, 1) := by decide +kernel
theorem dX12_rightBy_30 : decode cX12_rightBy 30 = .ok (.bipush 10, 2) := by decide +kernel
theorem dX12_rightBy_32 : decode cX12_rightBy 32 = .ok (.iushr, 1) := by decide +kernel
theorem dX12_rightBy_33 : decode cX12_rightBy 33 = .ok (.bipush 10, 2) := by decide +kernel
theorem dX12_rightBy_35 : decode cX12_rightBy 35 = .ok (.irem, 1) := by decide +kernel
theorem dX12_rightBy_36 : decode cX12_rightBy 36 = .ok (.iload_n 2, 1) := by decide +kernel
theorem dX12_rightBy_37 : decode cX12_rightBy 37 = .ok (.if_icmp .ge 7, 3) := by decide +kernel
theorem dX12_rightBy_40 : decode cX12_rightBy 40 = .ok (.iconst 1, 1) := by decide +kernel
theorem dX12_rightBy_41 : decode cX12_rightBy 41 = .ok (.goto 4, 3) := by decide +kernel
theorem dX12_rightBy_44 : decode cX12_rightBy 44 = .ok (.iconst 0, 1) := by decide +kernel
theorem dX12_rightBy_45 : decode cX12_rightBy 45 = .ok (.iadd, 1) := by decide +kernel
theorem dX12_rightBy_46 : decode cX12_rightBy 46 = .ok (.istore 4, 2) := by decide +kernel
theorem dX12_rightBy_48 : decode cX12_rightBy 48 = .ok (.iinc 5 1, 3) := by decide +kernel
theorem dX12_rightBy_51 : decode cX12_rightBy 51 = .ok (.goto (-43), 3) := by decide +kernel
theorem dX12_rightBy_54 : decode cX12_rightBy 54 = .ok (.iload 4, 2) := by decide +kernel
theorem dX12_rightBy_56 : decode cX12_rightBy 56 = .ok (.ireturn, 1) := by decide +kernel
theorem dX12_thrownBy_0 : decode cX12_thrownBy 0 = .ok (.iload_n 2, 1) := by decide +kernel
theorem dX12_thrownBy_1 : decode cX12_thrownBy 1 = .ok (.iconst 0, 1) := by decide +kernel
theorem dX12_thrownBy_2 : decode cX12_thrownBy 2 = .ok (.bipush 10, 2) := by decide +kernel
theorem dX12_thrownBy_4 : decode cX12_thrownBy 4 = .ok (.invokestatic 92, 3) := by decide +kernel
theorem dX12_thrownBy_7 : decode cX12_thrownBy 7 = .ok (.ifCond .eq 12, 3) := by decide +kernel
theorem dX12_thrownBy_10 : decode cX12_thrownBy 10 = .ok (.aload_n 0, 1) := by decide +kernel
theorem dX12_thrownBy_11 : decode cX12_thrownBy 11 = .ok (.iload_n 1, 1) := by decide +kernel
theorem dX12_thrownBy_12 : decode cX12_thrownBy 12 = .ok (.iload_n 2, 1) := by decide +kernel
theorem dX12_thrownBy_13 : decode cX12_thrownBy 13 = .ok (.invokevirtual 272, 3) := by decide +kernel
theorem dX12_thrownBy_16 : decode cX12_thrownBy 16 = .ok (.goto 5, 3) := by decide +kernel
theorem dX12_thrownBy_19 : decode cX12_thrownBy 19 = .ok (.bipush (-2), 2) := by decide +kernel
theorem dX12_thrownBy_21 : decode cX12_thrownBy 21 = .ok (.ireturn, 1) := by decide +kernel
theorem dX12_divisor_0 : decode cX12_divisor 0 = .ok (.iload_n 0, 1) := by decide +kernel
theorem dX12_divisor_1 : decode cX12_divisor 1 = .ok (.istore_n 2, 1) := by decide +kernel
theorem dX12_divisor_2 : decode cX12_divisor 2 = .ok (.iload_n 1, 1) := by decide +kernel
theorem dX12_divisor_3 : decode cX12_divisor 3 = .ok (.istore_n 3, 1) := by decide +kernel
theorem dX12_divisor_4 : decode cX12_divisor 4 = .ok (.iload_n 3, 1) := by decide +kernel
theorem dX12_divisor_5 : decode cX12_divisor 5 = .ok (.ifCond .eq 16, 3) := by decide +kernel
theorem dX12_divisor_8 : decode cX12_divisor 8 = .ok (.iload_n 2, 1) := by decide +kernel
theorem dX12_divisor_9 : decode cX12_divisor 9 = .ok (.iload_n 3, 1) := by decide +kernel
theorem dX12_divisor_10 : decode cX12_divisor 10 = .ok (.irem, 1) := by decide +kernel
theorem dX12_divisor_11 : decode cX12_divisor 11 = .ok (.istore 4, 2) := by decide +kernel
theorem dX12_divisor_13 : decode cX12_divisor 13 = .ok (.iload_n 3, 1) := by decide +kernel
theorem dX12_divisor_14 : decode cX12_divisor 14 = .ok (.istore_n 2, 1) := by decide +kernel
theorem dX12_divisor_15 : decode cX12_divisor 15 = .ok (.iload 4, 2) := by decide +kernel
theorem dX12_divisor_17 : decode cX12_divisor 17 = .ok (.istore_n 3, 1) := by decide +kernel
theorem dX12_divisor_18 : decode cX12_divisor 18 = .ok (.goto (-14), 3) := by decide +kernel
theorem dX12_divisor_21 : decode cX12_divisor 21 = .ok (.iload_n 2, 1) := by decide +kernel
theorem dX12_divisor_22 : decode cX12_divisor 22 = .ok (.ireturn, 1) := by decide +kernel
theorem dX12_chance_0 : decode cX12_chance 0 = .ok (.iload_n 2, 1) := by decide +kernel
theorem dX12_chance_1 : decode cX12_chance 1 = .ok (.iconst 1, 1) := by decide +kernel
theorem dX12_chance_2 : decode cX12_chance 2 = .ok (.bipush 20, 2) := by decide +kernel
theorem dX12_chance_4 : decode cX12_chance 4 = .ok (.invokestatic 92, 3) := by decide +kernel
theorem dX12_chance_7 : decode cX12_chance 7 = .ok (.ifCond .eq 23, 3) := by decide +kernel
theorem dX12_chance_10 : decode cX12_chance 10 = .ok (.iload_n 3, 1) := by decide +kernel
theorem dX12_chance_11 : decode cX12_chance 11 = .ok (.iconst 0, 1) := by decide +kernel
theorem dX12_chance_12 : decode cX12_chance 12 = .ok (.bipush 10, 2) := by decide +kernel
theorem dX12_chance_14 : decode cX12_chance 14 = .ok (.invokestatic 92, 3) := by decide +kernel
theorem dX12_chance_17 : decode cX12_chance 17 = .ok (.ifCond .eq 13, 3) := by decide +kernel
theorem dX12_chance_20 : decode cX12_chance 20 = .ok (.iload 4, 2) := by decide +kernel
theorem dX12_chance_22 : decode cX12_chance 22 = .ok (.iconst 0, 1) := by decide +kernel
theorem dX12_chance_23 : decode cX12_chance 23 = .ok (.iconst 1, 1) := by decide +kernel
theorem dX12_chance_24 : decode cX12_chance 24 = .ok (.invokestatic 92, 3) := by decide +kernel
theorem dX12_chance_27 : decode cX12_chance 27 = .ok (.ifCond .ne 7, 3) := by decide +kernel
theorem dX12_chance_30 : decode cX12_chance 30 = .ok (.ldc2_w 275, 3) := by decide +kernel
theorem dX12_chance_33 : decode cX12_chance 33 = .ok (.lreturn, 1) := by decide +kernel
theorem dX12_chance_34 : decode cX12_chance 34 = .ok (.iconst 0, 1) := by decide +kernel
theorem dX12_chance_35 : decode cX12_chance 35 = .ok (.istore 5, 2) := by decide +kernel
theorem dX12_chance_37 : decode cX12_chance 37 = .ok (.iconst 0, 1) := by decide +kernel
theorem dX12_chance_38 : decode cX12_chance 38 = .ok (.istore 6, 2) := by decide +kernel
theorem dX12_chance_40 : decode cX12_chance 40 = .ok (.iload 6, 2) := by decide +kernel
theorem dX12_chance_42 : decode cX12_chance 42 = .ok (.iload_n 2, 1) := by decide +kernel
theorem dX12_chance_43 : decode cX12_chance 43 = .ok (.if_icmp .ge 35, 3) := by decide +kernel
theorem dX12_chance_46 : decode cX12_chance 46 = .ok (.iload 5, 2) := by decide +kernel
theorem dX12_chance_48 : decode cX12_chance 48 = .ok (.aload_n 0, 1) := by decide +kernel
theorem dX12_chance_49 : decode cX12_chance 49 = .ok (.iload_n 1, 1) := by decide +kernel
theorem dX12_chance_50 : decode cX12_chance 50 = .ok (.iload 6, 2) := by decide +kernel
theorem dX12_chance_52 : decode cX12_chance 52 = .ok (.iadd, 1) := by decide +kernel
theorem dX12_chance_53 : decode cX12_chance 53 = .ok (.iload_n 3, 1) := by decide +kernel
theorem dX12_chance_54 : decode cX12_chance 54 = .ok (.invokevirtual 272, 3) := by decide +kernel
theorem dX12_chance_57 : decode cX12_chance 57 = .ok (.aload_n 0, 1) := by decide +kernel
theorem dX12_chance_58 : decode cX12_chance 58 = .ok (.getfield 82, 3) := by decide +kernel
theorem dX12_chance_61 : decode cX12_chance 61 = .ok (.if_icmp .ne 7, 3) := by decide +kernel
theorem dX12_chance_64 : decode cX12_chance 64 = .ok (.iconst 1, 1) := by decide +kernel
theorem dX12_chance_65 : decode cX12_chance 65 = .ok (.goto 4, 3) := by decide +kernel
theorem dX12_chance_68 : decode cX12_chance 68 = .ok (.iconst 0, 1) := by decide +kernel
theorem dX12_chance_69 : decode cX12_chance 69 = .ok (.iadd, 1) := by decide +kernel
theorem dX12_chance_70 : decode cX12_chance 70 = .ok (.istore 5, 2) := by decide +kernel
theorem dX12_chance_72 : decode cX12_chance 72 = .ok (.iinc 6 1, 3) := by decide +kernel
theorem dX12_chance_75 : decode cX12_chance 75 = .ok (.goto (-35), 3) := by decide +kernel
theorem dX12_chance_78 : decode cX12_chance 78 = .ok (.iload 4, 2) := by decide +kernel
theorem dX12_chance_80 : decode cX12_chance 80 = .ok (.ifCond .ne 8, 3) := by decide +kernel
theorem dX12_chance_83 : decode cX12_chance 83 = .ok (.iload 5, 2) := by decide +kernel
theorem dX12_chance_85 : decode cX12_chance 85 = .ok (.goto 4, 3) := by decide +kernel
theorem dX12_chance_88 : decode cX12_chance 88 = .ok (.iload_n 2, 1) := by decide +kernel
theorem dX12_chance_89 : decode cX12_chance 89 = .ok (.iload 5, 2) := by decide +kernel
theorem dX12_chance_91 : decode cX12_chance 91 = .ok (.iload_n 2, 1) := by decide +kernel
theorem dX12_chance_92 : decode cX12_chance 92 = .ok (.invokestatic 277, 3) := by decide +kernel
theorem dX12_chance_95 : decode cX12_chance 95 = .ok (.idiv, 1) := by decide +kernel
theorem dX12_chance_96 : decode cX12_chance 96 = .ok (.i2l, 1) := by decide +kernel
theorem dX12_chance_97 : decode cX12_chance 97 = .ok (.lreturn, 1) := by decide +kernel
theorem dX12_passes_0 : decode cX12_passes 0 = .ok (.iconst 0, 1) := by decide +kernel
theorem dX12_passes_1 : decode cX12_passes 1 = .ok (.istore_n 2, 1) := by decide +kernel
theorem dX12_passes_2 : decode cX12_passes 2 = .ok (.iload_n 2, 1) := by decide +kernel
theorem dX12_passes_3 : decode cX12_passes 3 = .ok (.aload_n 1, 1) := by decide +kernel
theorem dX12_passes_4 : decode cX12_passes 4 = .ok (.arraylength, 1) := by decide +kernel
theorem dX12_passes_5 : decode cX12_passes 5 = .ok (.if_icmp .ge 53, 3) := by decide +kernel
theorem dX12_passes_8 : decode cX12_passes 8 = .ok (.aload_n 0, 1) := by decide +kernel
theorem dX12_passes_9 : decode cX12_passes 9 = .ok (.getfield 280, 3) := by decide +kernel
theorem dX12_passes_12 : decode cX12_passes 12 = .ok (.ifCond .eq 18, 3) := by decide +kernel
theorem dX12_passes_15 : decode cX12_passes 15 = .ok (.aload_n 0, 1) := by decide +kernel
theorem dX12_passes_16 : decode cX12_passes 16 = .ok (.getfield 64, 3) := by decide +kernel
theorem dX12_passes_19 : decode cX12_passes 19 = .ok (.aload_n 0, 1) := by decide +kernel
theorem dX12_passes_20 : decode cX12_passes 20 = .ok (.getfield 284, 3) := by decide +kernel
theorem dX12_passes_23 : decode cX12_passes 23 = .ok (.aload_n 1, 1) := by decide +kernel
theorem dX12_passes_24 : decode cX12_passes 24 = .ok (.iload_n 2, 1) := by decide +kernel
theorem dX12_passes_25 : decode cX12_passes 25 = .ok (.iaload, 1) := by decide +kernel
theorem dX12_passes_26 : decode cX12_passes 26 = .ok (.iastore, 1) := by decide +kernel
theorem dX12_passes_27 : decode cX12_passes 27 = .ok (.goto 15, 3) := by decide +kernel
theorem dX12_passes_30 : decode cX12_passes 30 = .ok (.aload_n 1, 1) := by decide +kernel
theorem dX12_passes_31 : decode cX12_passes 31 = .ok (.iload_n 2, 1) := by decide +kernel
theorem dX12_passes_32 : decode cX12_passes 32 = .ok (.aload_n 0, 1) := by decide +kernel
theorem dX12_passes_33 : decode cX12_passes 33 = .ok (.getfield 64, 3) := by decide +kernel
theorem dX12_passes_36 : decode cX12_passes 36 = .ok (.aload_n 0, 1) := by decide +kernel
theorem dX12_passes_37 : decode cX12_passes 37 = .ok (.getfield 284, 3) := by decide +kernel
theorem dX12_passes_40 : decode cX12_passes 40 = .ok (.iaload, 1) := by decide +kernel
theorem dX12_passes_41 : decode cX12_passes 41 = .ok (.iastore, 1) := by decide +kernel
theorem dX12_passes_42 : decode cX12_passes 42 = .ok (.aload_n 0, 1) := by decide +kernel
theorem dX12_passes_43 : decode cX12_passes 43 = .ok (.dup, 1) := by decide +kernel
theorem dX12_passes_44 : decode cX12_passes 44 = .ok (.getfield 284, 3) := by decide +kernel
theorem dX12_passes_47 : decode cX12_passes 47 = .ok (.iconst 1, 1) := by decide +kernel
theorem dX12_passes_48 : decode cX12_passes 48 = .ok (.iadd, 1) := by decide +kernel
theorem dX12_passes_49 : decode cX12_passes 49 = .ok (.putfield 284, 3) := by decide +kernel
theorem dX12_passes_52 : decode cX12_passes 52 = .ok (.iinc 2 1, 3) := by decide +kernel
theorem dX12_passes_55 : decode cX12_passes 55 = .ok (.goto (-53), 3) := by decide +kernel
theorem dX12_passes_58 : decode cX12_passes 58 = .ok (.return_, 1) := by decide +kernel
theorem dX12_passOne_0 : decode cX12_passOne 0 = .ok (.aload_n 0, 1) := by decide +kernel
theorem dX12_passOne_1 : decode cX12_passOne 1 = .ok (.getfield 280, 3) := by decide +kernel
theorem dX12_passOne_4 : decode cX12_passOne 4 = .ok (.ifCond .eq 7, 3) := by decide +kernel
theorem dX12_passOne_7 : decode cX12_passOne 7 = .ok (.iload_n 1, 1) := by decide +kernel
theorem dX12_passOne_8 : decode cX12_passOne 8 = .ok (.goto 12, 3) := by decide +kernel
theorem dX12_passOne_11 : decode cX12_passOne 11 = .ok (.aload_n 0, 1) := by decide +kernel
theorem dX12_passOne_12 : decode cX12_passOne 12 = .ok (.getfield 64, 3) := by decide +kernel
theorem dX12_passOne_15 : decode cX12_passOne 15 = .ok (.aload_n 0, 1) := by decide +kernel
theorem dX12_passOne_16 : decode cX12_passOne 16 = .ok (.getfield 284, 3) := by decide +kernel
theorem dX12_passOne_19 : decode cX12_passOne 19 = .ok (.iaload, 1) := by decide +kernel
theorem dX12_passOne_20 : decode cX12_passOne 20 = .ok (.istore_n 2, 1) := by decide +kernel
theorem dX12_passOne_21 : decode cX12_passOne 21 = .ok (.aload_n 0, 1) := by decide +kernel
theorem dX12_passOne_22 : decode cX12_passOne 22 = .ok (.getfield 280, 3) := by decide +kernel
theorem dX12_passOne_25 : decode cX12_passOne 25 = .ok (.ifCond .eq 13, 3) := by decide +kernel
theorem dX12_passOne_28 : decode cX12_passOne 28 = .ok (.aload_n 0, 1) := by decide +kernel
theorem dX12_passOne_29 : decode cX12_passOne 29 = .ok (.getfield 64, 3) := by decide +kernel
theorem dX12_passOne_32 : decode cX12_passOne 32 = .ok (.aload_n 0, 1) := by decide +kernel
theorem dX12_passOne_33 : decode cX12_passOne 33 = .ok (.getfield 284, 3) := by decide +kernel
theorem dX12_passOne_36 : decode cX12_passOne 36 = .ok (.iload_n 1, 1) := by decide +kernel
theorem dX12_passOne_37 : decode cX12_passOne 37 = .ok (.iastore, 1) := by decide +kernel
theorem dX12_passOne_38 : decode cX12_passOne 38 = .ok (.aload_n 0, 1) := by decide +kernel
theorem dX12_passOne_39 : decode cX12_passOne 39 = .ok (.dup, 1) := by decide +kernel
theorem dX12_passOne_40 : decode cX12_passOne 40 = .ok (.getfield 284, 3) := by decide +kernel
theorem dX12_passOne_43 : decode cX12_passOne 43 = .ok (.iconst 1, 1) := by decide +kernel
theorem dX12_passOne_44 : decode cX12_passOne 44 = .ok (.iadd, 1) := by decide +kernel
theorem dX12_passOne_45 : decode cX12_passOne 45 = .ok (.putfield 284, 3) := by decide +kernel
theorem dX12_passOne_48 : decode cX12_passOne 48 = .ok (.iload_n 2, 1) := by decide +kernel
theorem dX12_passOne_49 : decode cX12_passOne 49 = .ok (.ireturn, 1) := by decide +kernel
theorem dX12_passesAll_0 : decode cX12_passesAll 0 = .ok (.aload_n 0, 1) := by decide +kernel
theorem dX12_passesAll_1 : decode cX12_passesAll 1 = .ok (.iconst 0, 1) := by decide +kernel
theorem dX12_passesAll_2 : decode cX12_passesAll 2 = .ok (.putfield 284, 3) := by decide +kernel
theorem dX12_passesAll_5 : decode cX12_passesAll 5 = .ok (.aload_n 0, 1) := by decide +kernel
theorem dX12_passesAll_6 : decode cX12_passesAll 6 = .ok (.iload_n 1, 1) := by decide +kernel
theorem dX12_passesAll_7 : decode cX12_passesAll 7 = .ok (.putfield 280, 3) := by decide +kernel
theorem dX12_passesAll_10 : decode cX12_passesAll 10 = .ok (.aload_n 0, 1) := by decide +kernel
theorem dX12_passesAll_11 : decode cX12_passesAll 11 = .ok (.aload_n 0, 1) := by decide +kernel
theorem dX12_passesAll_12 : decode cX12_passesAll 12 = .ok (.getfield 13, 3) := by decide +kernel
theorem dX12_passesAll_15 : decode cX12_passesAll 15 = .ok (.invokevirtual 287, 3) := by decide +kernel
theorem dX12_passesAll_18 : decode cX12_passesAll 18 = .ok (.aload_n 0, 1) := by decide +kernel
theorem dX12_passesAll_19 : decode cX12_passesAll 19 = .ok (.aload_n 0, 1) := by decide +kernel
theorem dX12_passesAll_20 : decode cX12_passesAll 20 = .ok (.getfield 16, 3) := by decide +kernel
theorem dX12_passesAll_23 : decode cX12_passesAll 23 = .ok (.invokevirtual 287, 3) := by decide +kernel
theorem dX12_passesAll_26 : decode cX12_passesAll 26 = .ok (.aload_n 0, 1) := by decide +kernel
theorem dX12_passesAll_27 : decode cX12_passesAll 27 = .ok (.aload_n 0, 1) := by decide +kernel
theorem dX12_passesAll_28 : decode cX12_passesAll 28 = .ok (.getfield 19, 3) := by decide +kernel
theorem dX12_passesAll_31 : decode cX12_passesAll 31 = .ok (.invokevirtual 287, 3) := by decide +kernel
theorem dX12_passesAll_34 : decode cX12_passesAll 34 = .ok (.aload_n 0, 1) := by decide +kernel
theorem dX12_passesAll_35 : decode cX12_passesAll 35 = .ok (.aload_n 0, 1) := by decide +kernel
theorem dX12_passesAll_36 : decode cX12_passesAll 36 = .ok (.getfield 22, 3) := by decide +kernel
theorem dX12_passesAll_39 : decode cX12_passesAll 39 = .ok (.invokevirtual 287, 3) := by decide +kernel
theorem dX12_passesAll_42 : decode cX12_passesAll 42 = .ok (.aload_n 0, 1) := by decide +kernel
theorem dX12_passesAll_43 : decode cX12_passesAll 43 = .ok (.aload_n 0, 1) := by decide +kernel
theorem dX12_passesAll_44 : decode cX12_passesAll 44 = .ok (.getfield 25, 3) := by decide +kernel
theorem dX12_passesAll_47 : decode cX12_passesAll 47 = .ok (.invokevirtual 287, 3) := by decide +kernel
theorem dX12_passesAll_50 : decode cX12_passesAll 50 = .ok (.aload_n 0, 1) := by decide +kernel
theorem dX12_passesAll_51 : decode cX12_passesAll 51 = .ok (.aload_n 0, 1) := by decide +kernel
theorem dX12_passesAll_52 : decode cX12_passesAll 52 = .ok (.getfield 28, 3) := by decide +kernel
theorem dX12_passesAll_55 : decode cX12_passesAll 55 = .ok (.invokevirtual 287, 3) := by decide +kernel
theorem dX12_passesAll_58 : decode cX12_passesAll 58 = .ok (.aload_n 0, 1) := by decide +kernel
theorem dX12_passesAll_59 : decode cX12_passesAll 59 = .ok (.aload_n 0, 1) := by decide +kernel
theorem dX12_passesAll_60 : decode cX12_passesAll 60 = .ok (.aload_n 0, 1) := by decide +kernel
theorem dX12_passesAll_61 : decode cX12_passesAll 61 = .ok (.getfield 82, 3) := by decide +kernel
theorem dX12_passesAll_64 : decode cX12_passesAll 64 = .ok (.invokevirtual 291, 3) := by decide +kernel
theorem dX12_passesAll_67 : decode cX12_passesAll 67 = .ok (.putfield 82, 3) := by decide +kernel
theorem dX12_passesAll_70 : decode cX12_passesAll 70 = .ok (.aload_n 0, 1) := by decide +kernel
theorem dX12_passesAll_71 : decode cX12_passesAll 71 = .ok (.aload_n 0, 1) := by decide +kernel
theorem dX12_passesAll_72 : decode cX12_passesAll 72 = .ok (.aload_n 0, 1) := by decide +kernel
theorem dX12_passesAll_73 : decode cX12_passesAll 73 = .ok (.getfield 165, 3) := by decide +kernel
theorem dX12_passesAll_76 : decode cX12_passesAll 76 = .ok (.invokevirtual 291, 3) := by decide +kernel
theorem dX12_passesAll_79 : decode cX12_passesAll 79 = .ok (.putfield 165, 3) := by decide +kernel
theorem dX12_passesAll_82 : decode cX12_passesAll 82 = .ok (.return_, 1) := by decide +kernel
theorem dX12_image_0 : decode cX12_image 0 = .ok (.aload_n 0, 1) := by decide +kernel
theorem dX12_image_1 : decode cX12_image 1 = .ok (.iconst 1, 1) := by decide +kernel
theorem dX12_image_2 : decode cX12_image 2 = .ok (.putfield 294, 3) := by decide +kernel
theorem dX12_image_5 : decode cX12_image 5 = .ok (.aload_n 0, 1) := by decide +kernel
theorem dX12_image_6 : decode cX12_image 6 = .ok (.iconst 1, 1) := by decide +kernel
theorem dX12_image_7 : decode cX12_image 7 = .ok (.invokevirtual 297, 3) := by decide +kernel
theorem dX12_image_10 : decode cX12_image 10 = .ok (.aload_n 0, 1) := by decide +kernel
theorem dX12_image_11 : decode cX12_image 11 = .ok (.getfield 82, 3) := by decide +kernel
theorem dX12_image_14 : decode cX12_image 14 = .ok (.ireturn, 1) := by decide +kernel
theorem dX12_back_0 : decode cX12_back 0 = .ok (.aload_n 0, 1) := by decide +kernel
theorem dX12_back_1 : decode cX12_back 1 = .ok (.getfield 294, 3) := by decide +kernel
theorem dX12_back_4 : decode cX12_back 4 = .ok (.ifCond .ne 6, 3) := by decide +kernel
theorem dX12_back_7 : decode cX12_back 7 = .ok (.bipush (-3), 2) := by decide +kernel
theorem dX12_back_9 : decode cX12_back 9 = .ok (.ireturn, 1) := by decide +kernel
theorem dX12_back_10 : decode cX12_back 10 = .ok (.aload_n 0, 1) := by decide +kernel
theorem dX12_back_11 : decode cX12_back 11 = .ok (.iconst 0, 1) := by decide +kernel
theorem dX12_back_12 : decode cX12_back 12 = .ok (.invokevirtual 297, 3) := by decide +kernel
theorem dX12_back_15 : decode cX12_back 15 = .ok (.aload_n 0, 1) := by decide +kernel
theorem dX12_back_16 : decode cX12_back 16 = .ok (.getfield 82, 3) := by decide +kernel
theorem dX12_back_19 : decode cX12_back 19 = .ok (.ireturn, 1) := by decide +kernel
theorem dX12_count_0 : decode cX12_count 0 = .ok (.iload_n 1, 1) := by decide +kernel
theorem dX12_count_1 : decode cX12_count 1 = .ok (.iconst 4, 1) := by decide +kernel
theorem dX12_count_2 : decode cX12_count 2 = .ok (.bipush 13, 2) := by decide +kernel
theorem dX12_count_4 : decode cX12_count 4 = .ok (.invokestatic 92, 3) := by decide +kernel
theorem dX12_count_7 : decode cX12_count 7 = .ok (.ifCond .eq 12, 3) := by decide +kernel
theorem dX12_count_10 : decode cX12_count 10 = .ok (.aload_n 0, 1) := by decide +kernel
theorem dX12_count_11 : decode cX12_count 11 = .ok (.getfield 28, 3) := by decide +kernel
theorem dX12_count_14 : decode cX12_count 14 = .ok (.iload_n 1, 1) := by decide +kernel
theorem dX12_count_15 : decode cX12_count 15 = .ok (.iconst 4, 1) := by decide +kernel
theorem dX12_count_16 : decode cX12_count 16 = .ok (.isub, 1) := by decide +kernel
theorem dX12_count_17 : decode cX12_count 17 = .ok (.iaload, 1) := by decide +kernel
theorem dX12_count_18 : decode cX12_count 18 = .ok (.ireturn, 1) := by decide +kernel
theorem dX12_count_19 : decode cX12_count 19 = .ok (.iload_n 1, 1) := by decide +kernel
theorem dX12_count_20 : decode cX12_count 20 = .ok (.tableswitch 52 0 3 #[32, 37, 42, 47], 32) := by decide +kernel
theorem dX12_count_52 : decode cX12_count 52 = .ok (.aload_n 0, 1) := by decide +kernel
theorem dX12_count_53 : decode cX12_count 53 = .ok (.getfield 82, 3) := by decide +kernel
theorem dX12_count_56 : decode cX12_count 56 = .ok (.ireturn, 1) := by decide +kernel
theorem dX12_count_57 : decode cX12_count 57 = .ok (.aload_n 0, 1) := by decide +kernel
theorem dX12_count_58 : decode cX12_count 58 = .ok (.getfield 51, 3) := by decide +kernel
theorem dX12_count_61 : decode cX12_count 61 = .ok (.ireturn, 1) := by decide +kernel
theorem dX12_count_62 : decode cX12_count 62 = .ok (.aload_n 0, 1) := by decide +kernel
theorem dX12_count_63 : decode cX12_count 63 = .ok (.getfield 96, 3) := by decide +kernel
theorem dX12_count_66 : decode cX12_count 66 = .ok (.ireturn, 1) := by decide +kernel
theorem dX12_count_67 : decode cX12_count 67 = .ok (.aload_n 0, 1) := by decide +kernel
theorem dX12_count_68 : decode cX12_count 68 = .ok (.getfield 165, 3) := by decide +kernel
theorem dX12_count_71 : decode cX12_count 71 = .ok (.ireturn, 1) := by decide +kernel
theorem dX12_count_72 : decode cX12_count 72 = .ok (.bipush (-2), 2) := by decide +kernel
theorem dX12_count_74 : decode cX12_count 74 = .ok (.ireturn, 1) := by decide +kernel
theorem dX12_isSheet_0 : decode cX12_isSheet 0 = .ok (.iload_n 0, 1) := by decide +kernel
theorem dX12_isSheet_1 : decode cX12_isSheet 1 = .ok (.ifCond .lt 12, 3) := by decide +kernel
theorem dX12_isSheet_4 : decode cX12_isSheet 4 = .ok (.iload_n 0, 1) := by decide +kernel
theorem dX12_isSheet_5 : decode cX12_isSheet 5 = .ok (.iconst 4, 1) := by decide +kernel
theorem dX12_isSheet_6 : decode cX12_isSheet 6 = .ok (.if_icmp .ge 7, 3) := by decide +kernel
theorem dX12_isSheet_9 : decode cX12_isSheet 9 = .ok (.iconst 1, 1) := by decide +kernel
theorem dX12_isSheet_10 : decode cX12_isSheet 10 = .ok (.goto 4, 3) := by decide +kernel
theorem dX12_isSheet_13 : decode cX12_isSheet 13 = .ok (.iconst 0, 1) := by decide +kernel
theorem dX12_isSheet_14 : decode cX12_isSheet 14 = .ok (.ireturn, 1) := by decide +kernel
theorem dX12_sheet_0 : decode cX12_sheet 0 = .ok (.iload_n 1, 1) := by decide +kernel
theorem dX12_sheet_1 : decode cX12_sheet 1 = .ok (.invokestatic 245, 3) := by decide +kernel
theorem dX12_sheet_4 : decode cX12_sheet 4 = .ok (.ifCond .eq 12, 3) := by decide +kernel
theorem dX12_sheet_7 : decode cX12_sheet 7 = .ok (.iload_n 2, 1) := by decide +kernel
theorem dX12_sheet_8 : decode cX12_sheet 8 = .ok (.iconst (-1), 1) := by decide +kernel
theorem dX12_sheet_9 : decode cX12_sheet 9 = .ok (.iconst 2, 1) := by decide +kernel
theorem dX12_sheet_10 : decode cX12_sheet 10 = .ok (.invokestatic 92, 3) := by decide +kernel
theorem dX12_sheet_13 : decode cX12_sheet 13 = .ok (.ifCond .ne 6, 3) := by decide +kernel
theorem dX12_sheet_16 : decode cX12_sheet 16 = .ok (.bipush (-2), 2) := by decide +kernel
theorem dX12_sheet_18 : decode cX12_sheet 18 = .ok (.ireturn, 1) := by decide +kernel
theorem dX12_sheet_19 : decode cX12_sheet 19 = .ok (.iload_n 2, 1) := by decide +kernel
theorem dX12_sheet_20 : decode cX12_sheet 20 = .ok (.ifCond .lt 12, 3) := by decide +kernel
theorem dX12_sheet_23 : decode cX12_sheet 23 = .ok (.iload_n 3, 1) := by decide +kernel
theorem dX12_sheet_24 : decode cX12_sheet 24 = .ok (.bipush 40, 2) := by decide +kernel
theorem dX12_sheet_26 : decode cX12_sheet 26 = .ok (.if_icmp .le 6, 3) := by decide +kernel
theorem dX12_sheet_29 : decode cX12_sheet 29 = .ok (.bipush (-2), 2) := by decide +kernel
theorem dX12_sheet_31 : decode cX12_sheet 31 = .ok (.ireturn, 1) := by decide +kernel
theorem dX12_sheet_32 : decode cX12_sheet 32 = .ok (.iload_n 2, 1) := by decide +kernel
theorem dX12_sheet_33 : decode cX12_sheet 33 = .ok (.ifCond .lt 10, 3) := by decide +kernel
theorem dX12_sheet_36 : decode cX12_sheet 36 = .ok (.iload_n 3, 1) := by decide +kernel
theorem dX12_sheet_37 : decode cX12_sheet 37 = .ok (.ifCond .ge 6, 3) := by decide +kernel
theorem dX12_sheet_40 : decode cX12_sheet 40 = .ok (.bipush (-14), 2) := by decide +kernel
theorem dX12_sheet_42 : decode cX12_sheet 42 = .ok (.ireturn, 1) := by decide +kernel
theorem dX12_sheet_43 : decode cX12_sheet 43 = .ok (.aload_n 0, 1) := by decide +kernel
theorem dX12_sheet_44 : decode cX12_sheet 44 = .ok (.getfield 67, 3) := by decide +kernel
theorem dX12_sheet_47 : decode cX12_sheet 47 = .ok (.iload_n 1, 1) := by decide +kernel
theorem dX12_sheet_48 : decode cX12_sheet 48 = .ok (.iload_n 2, 1) := by decide +kernel
theorem dX12_sheet_49 : decode cX12_sheet 49 = .ok (.iastore, 1) := by decide +kernel
theorem dX12_sheet_50 : decode cX12_sheet 50 = .ok (.aload_n 0, 1) := by decide +kernel
theorem dX12_sheet_51 : decode cX12_sheet 51 = .ok (.getfield 70, 3) := by decide +kernel
theorem dX12_sheet_54 : decode cX12_sheet 54 = .ok (.iload_n 1, 1) := by decide +kernel
theorem dX12_sheet_55 : decode cX12_sheet 55 = .ok (.iload_n 2, 1) := by decide +kernel
theorem dX12_sheet_56 : decode cX12_sheet 56 = .ok (.ifCond .ge 7, 3) := by decide +kernel
theorem dX12_sheet_59 : decode cX12_sheet 59 = .ok (.iconst 0, 1) := by decide +kernel
theorem dX12_sheet_60 : decode cX12_sheet 60 = .ok (.goto 4, 3) := by decide +kernel
theorem dX12_sheet_63 : decode cX12_sheet 63 = .ok (.iload_n 3, 1) := by decide +kernel
theorem dX12_sheet_64 : decode cX12_sheet 64 = .ok (.iastore, 1) := by decide +kernel
theorem dX12_sheet_65 : decode cX12_sheet 65 = .ok (.iconst 0, 1) := by decide +kernel
theorem dX12_sheet_66 : decode cX12_sheet 66 = .ok (.istore 4, 2) := by decide +kernel
theorem dX12_sheet_68 : decode cX12_sheet 68 = .ok (.iload 4, 2) := by decide +kernel
theorem dX12_sheet_70 : decode cX12_sheet 70 = .ok (.aload_n 0, 1) := by decide +kernel
theorem dX12_sheet_71 : decode cX12_sheet 71 = .ok (.getfield 70, 3) := by decide +kernel
theorem dX12_sheet_74 : decode cX12_sheet 74 = .ok (.iload_n 1, 1) := by decide +kernel
theorem dX12_sheet_75 : decode cX12_sheet 75 = .ok (.iaload, 1) := by decide +kernel
theorem dX12_sheet_76 : decode cX12_sheet 76 = .ok (.if_icmp .ge 22, 3) := by decide +kernel
theorem dX12_sheet_79 : decode cX12_sheet 79 = .ok (.aload_n 0, 1) := by decide +kernel
theorem dX12_sheet_80 : decode cX12_sheet 80 = .ok (.getfield 73, 3) := by decide +kernel
theorem dX12_sheet_83 : decode cX12_sheet 83 = .ok (.bipush 40, 2) := by decide +kernel
theorem dX12_sheet_85 : decode cX12_sheet 85 = .ok (.iload_n 1, 1) := by decide +kernel
theorem dX12_sheet_86 : decode cX12_sheet 86 = .ok (.imul, 1) := by decide +kernel
theorem dX12_sheet_87 : decode cX12_sheet 87 = .ok (.iload 4, 2) := by decide +kernel
theorem dX12_sheet_89 : decode cX12_sheet 89 = .ok (.iadd, 1) := by decide +kernel
theorem dX12_sheet_90 : decode cX12_sheet 90 = .ok (.iconst 0, 1) := by decide +kernel
theorem dX12_sheet_91 : decode cX12_sheet 91 = .ok (.iastore, 1) := by decide +kernel
theorem dX12_sheet_92 : decode cX12_sheet 92 = .ok (.iinc 4 1, 3) := by decide +kernel
theorem dX12_sheet_95 : decode cX12_sheet 95 = .ok (.goto (-27), 3) := by decide +kernel
theorem dX12_sheet_98 : decode cX12_sheet 98 = .ok (.iconst 1, 1) := by decide +kernel
theorem dX12_sheet_99 : decode cX12_sheet 99 = .ok (.ireturn, 1) := by decide +kernel
theorem dX12_cell_0 : decode cX12_cell 0 = .ok (.iload_n 1, 1) := by decide +kernel
theorem dX12_cell_1 : decode cX12_cell 1 = .ok (.invokestatic 245, 3) := by decide +kernel
theorem dX12_cell_4 : decode cX12_cell 4 = .ok (.ifCond .ne 6, 3) := by decide +kernel
theorem dX12_cell_7 : decode cX12_cell 7 = .ok (.bipush (-2), 2) := by decide +kernel
theorem dX12_cell_9 : decode cX12_cell 9 = .ok (.ireturn, 1) := by decide +kernel
theorem dX12_cell_10 : decode cX12_cell 10 = .ok (.aload_n 0, 1) := by decide +kernel
theorem dX12_cell_11 : decode cX12_cell 11 = .ok (.getfield 67, 3) := by decide +kernel
theorem dX12_cell_14 : decode cX12_cell 14 = .ok (.iload_n 1, 1) := by decide +kernel
theorem dX12_cell_15 : decode cX12_cell 15 = .ok (.iaload, 1) := by decide +kernel
theorem dX12_cell_16 : decode cX12_cell 16 = .ok (.ifCond .ge 6, 3) := by decide +kernel
theorem dX12_cell_19 : decode cX12_cell 19 = .ok (.bipush (-11), 2) := by decide +kernel
theorem dX12_cell_21 : decode cX12_cell 21 = .ok (.ireturn, 1) := by decide +kernel
theorem dX12_cell_22 : decode cX12_cell 22 = .ok (.iload_n 2, 1) := by decide +kernel
theorem dX12_cell_23 : decode cX12_cell 23 = .ok (.iconst 0, 1) := by decide +kernel
theorem dX12_cell_24 : decode cX12_cell 24 = .ok (.aload_n 0, 1) := by decide +kernel
theorem dX12_cell_25 : decode cX12_cell 25 = .ok (.getfield 70, 3) := by decide +kernel
theorem dX12_cell_28 : decode cX12_cell 28 = .ok (.iload_n 1, 1) := by decide +kernel
theorem dX12_cell_29 : decode cX12_cell 29 = .ok (.iaload, 1) := by decide +kernel
theorem dX12_cell_30 : decode cX12_cell 30 = .ok (.iconst 1, 1) := by decide +kernel
theorem dX12_cell_31 : decode cX12_cell 31 = .ok (.isub, 1) := by decide +kernel
theorem dX12_cell_32 : decode cX12_cell 32 = .ok (.invokestatic 92, 3) := by decide +kernel
theorem dX12_cell_35 : decode cX12_cell 35 = .ok (.ifCond .ne 6, 3) := by decide +kernel
theorem dX12_cell_38 : decode cX12_cell 38 = .ok (.bipush (-12), 2) := by decide +kernel
theorem dX12_cell_40 : decode cX12_cell 40 = .ok (.ireturn, 1) := by decide +kernel
theorem dX12_cell_41 : decode cX12_cell 41 = .ok (.aload_n 0, 1) := by decide +kernel
theorem dX12_cell_42 : decode cX12_cell 42 = .ok (.getfield 73, 3) := by decide +kernel
theorem dX12_cell_45 : decode cX12_cell 45 = .ok (.bipush 40, 2) := by decide +kernel
theorem dX12_cell_47 : decode cX12_cell 47 = .ok (.iload_n 1, 1) := by decide +kernel
theorem dX12_cell_48 : decode cX12_cell 48 = .ok (.imul, 1) := by decide +kernel
theorem dX12_cell_49 : decode cX12_cell 49 = .ok (.iload_n 2, 1) := by decide +kernel
theorem dX12_cell_50 : decode cX12_cell 50 = .ok (.iadd, 1) := by decide +kernel
theorem dX12_cell_51 : decode cX12_cell 51 = .ok (.aload_n 0, 1) := by decide +kernel
theorem dX12_cell_52 : decode cX12_cell 52 = .ok (.getfield 67, 3) := by decide +kernel
theorem dX12_cell_55 : decode cX12_cell 55 = .ok (.iload_n 1, 1) := by decide +kernel
theorem dX12_cell_56 : decode cX12_cell 56 = .ok (.iaload, 1) := by decide +kernel
theorem dX12_cell_57 : decode cX12_cell 57 = .ok (.ifCond .ne 8, 3) := by decide +kernel
theorem dX12_cell_60 : decode cX12_cell 60 = .ok (.iload_n 3, 1) := by decide +kernel
theorem dX12_cell_61 : decode cX12_cell 61 = .ok (.i2b, 1) := by decide +kernel
theorem dX12_cell_62 : decode cX12_cell 62 = .ok (.goto 19, 3) := by decide +kernel
theorem dX12_cell_65 : decode cX12_cell 65 = .ok (.aload_n 0, 1) := by decide +kernel
theorem dX12_cell_66 : decode cX12_cell 66 = .ok (.getfield 67, 3) := by decide +kernel
theorem dX12_cell_69 : decode cX12_cell 69 = .ok (.iload_n 1, 1) := by decide +kernel
theorem dX12_cell_70 : decode cX12_cell 70 = .ok (.iaload, 1) := by decide +kernel
theorem dX12_cell_71 : decode cX12_cell 71 = .ok (.iconst 1, 1) := by decide +kernel
theorem dX12_cell_72 : decode cX12_cell 72 = .ok (.if_icmp .ne 8, 3) := by decide +kernel
theorem dX12_cell_75 : decode cX12_cell 75 = .ok (.iload_n 3, 1) := by decide +kernel
theorem dX12_cell_76 : decode cX12_cell 76 = .ok (.i2s, 1) := by decide +kernel
theorem dX12_cell_77 : decode cX12_cell 77 = .ok (.goto 4, 3) := by decide +kernel
theorem dX12_cell_80 : decode cX12_cell 80 = .ok (.iload_n 3, 1) := by decide +kernel
theorem dX12_cell_81 : decode cX12_cell 81 = .ok (.iastore, 1) := by decide +kernel
theorem dX12_cell_82 : decode cX12_cell 82 = .ok (.iconst 1, 1) := by decide +kernel
theorem dX12_cell_83 : decode cX12_cell 83 = .ok (.ireturn, 1) := by decide +kernel
theorem dX12_hasCells_0 : decode cX12_hasCells 0 = .ok (.iload_n 2, 1) := by decide +kernel
theorem dX12_hasCells_1 : decode cX12_hasCells 1 = .ok (.ifCond .lt 29, 3) := by decide +kernel
theorem dX12_hasCells_4 : decode cX12_hasCells 4 = .ok (.iload_n 2, 1) := by decide +kernel
theorem dX12_hasCells_5 : decode cX12_hasCells 5 = .ok (.aload_n 0, 1) := by decide +kernel
theorem dX12_hasCells_6 : decode cX12_hasCells 6 = .ok (.getfield 70, 3) := by decide +kernel
theorem dX12_hasCells_9 : decode cX12_hasCells 9 = .ok (.iload_n 1, 1) := by decide +kernel
theorem dX12_hasCells_10 : decode cX12_hasCells 10 = .ok (.iaload, 1) := by decide +kernel
theorem dX12_hasCells_11 : decode cX12_hasCells 11 = .ok (.if_icmp .gt 19, 3) := by decide +kernel
theorem dX12_hasCells_14 : decode cX12_hasCells 14 = .ok (.iload_n 3, 1) := by decide +kernel
theorem dX12_hasCells_15 : decode cX12_hasCells 15 = .ok (.aload_n 0, 1) := by decide +kernel
theorem dX12_hasCells_16 : decode cX12_hasCells 16 = .ok (.getfield 70, 3) := by decide +kernel
theorem dX12_hasCells_19 : decode cX12_hasCells 19 = .ok (.iload_n 1, 1) := by decide +kernel
theorem dX12_hasCells_20 : decode cX12_hasCells 20 = .ok (.iaload, 1) := by decide +kernel
theorem dX12_hasCells_21 : decode cX12_hasCells 21 = .ok (.iload_n 2, 1) := by decide +kernel
theorem dX12_hasCells_22 : decode cX12_hasCells 22 = .ok (.isub, 1) := by decide +kernel
theorem dX12_hasCells_23 : decode cX12_hasCells 23 = .ok (.if_icmp .gt 7, 3) := by decide +kernel
theorem dX12_hasCells_26 : decode cX12_hasCells 26 = .ok (.iconst 1, 1) := by decide +kernel
theorem dX12_hasCells_27 : decode cX12_hasCells 27 = .ok (.goto 4, 3) := by decide +kernel
theorem dX12_hasCells_30 : decode cX12_hasCells 30 = .ok (.iconst 0, 1) := by decide +kernel
theorem dX12_hasCells_31 : decode cX12_hasCells 31 = .ok (.ireturn, 1) := by decide +kernel
theorem dX12_copy_0 : decode cX12_copy 0 = .ok (.iload_n 1, 1) := by decide +kernel
theorem dX12_copy_1 : decode cX12_copy 1 = .ok (.invokestatic 245, 3) := by decide +kernel
theorem dX12_copy_4 : decode cX12_copy 4 = .ok (.ifCond .eq 10, 3) := by decide +kernel
theorem dX12_copy_7 : decode cX12_copy 7 = .ok (.iload_n 3, 1) := by decide +kernel
theorem dX12_copy_8 : decode cX12_copy 8 = .ok (.invokestatic 245, 3) := by decide +kernel
theorem dX12_copy_11 : decode cX12_copy 11 = .ok (.ifCond .ne 6, 3) := by decide +kernel
theorem dX12_copy_14 : decode cX12_copy 14 = .ok (.bipush (-2), 2) := by decide +kernel
theorem dX12_copy_16 : decode cX12_copy 16 = .ok (.ireturn, 1) := by decide +kernel
theorem dX12_copy_17 : decode cX12_copy 17 = .ok (.aload_n 0, 1) := by decide +kernel
theorem dX12_copy_18 : decode cX12_copy 18 = .ok (.getfield 67, 3) := by decide +kernel
theorem dX12_copy_21 : decode cX12_copy 21 = .ok (.iload_n 1, 1) := by decide +kernel
theorem dX12_copy_22 : decode cX12_copy 22 = .ok (.iaload, 1) := by decide +kernel
theorem dX12_copy_23 : decode cX12_copy 23 = .ok (.ifCond .lt 12, 3) := by decide +kernel
theorem dX12_copy_26 : decode cX12_copy 26 = .ok (.aload_n 0, 1) := by decide +kernel
theorem dX12_copy_27 : decode cX12_copy 27 = .ok (.getfield 67, 3) := by decide +kernel
theorem dX12_copy_30 : decode cX12_copy 30 = .ok (.iload_n 3, 1) := by decide +kernel
theorem dX12_copy_31 : decode cX12_copy 31 = .ok (.iaload, 1) := by decide +kernel
theorem dX12_copy_32 : decode cX12_copy 32 = .ok (.ifCond .ge 6, 3) := by decide +kernel
theorem dX12_copy_35 : decode cX12_copy 35 = .ok (.bipush (-11), 2) := by decide +kernel
theorem dX12_copy_37 : decode cX12_copy 37 = .ok (.ireturn, 1) := by decide +kernel
theorem dX12_copy_38 : decode cX12_copy 38 = .ok (.aload_n 0, 1) := by decide +kernel
theorem dX12_copy_39 : decode cX12_copy 39 = .ok (.getfield 67, 3) := by decide +kernel
theorem dX12_copy_42 : decode cX12_copy 42 = .ok (.iload_n 1, 1) := by decide +kernel
theorem dX12_copy_43 : decode cX12_copy 43 = .ok (.iaload, 1) := by decide +kernel
theorem dX12_copy_44 : decode cX12_copy 44 = .ok (.aload_n 0, 1) := by decide +kernel
theorem dX12_copy_45 : decode cX12_copy 45 = .ok (.getfield 67, 3) := by decide +kernel
theorem dX12_copy_48 : decode cX12_copy 48 = .ok (.iload_n 3, 1) := by decide +kernel
theorem dX12_copy_49 : decode cX12_copy 49 = .ok (.iaload, 1) := by decide +kernel
theorem dX12_copy_50 : decode cX12_copy 50 = .ok (.if_icmp .eq 6, 3) := by decide +kernel
theorem dX12_copy_53 : decode cX12_copy 53 = .ok (.bipush (-13), 2) := by decide +kernel
theorem dX12_copy_55 : decode cX12_copy 55 = .ok (.ireturn, 1) := by decide +kernel
theorem dX12_copy_56 : decode cX12_copy 56 = .ok (.iload 5, 2) := by decide +kernel
theorem dX12_copy_58 : decode cX12_copy 58 = .ok (.ifCond .lt 26, 3) := by decide +kernel
theorem dX12_copy_61 : decode cX12_copy 61 = .ok (.aload_n 0, 1) := by decide +kernel
theorem dX12_copy_62 : decode cX12_copy 62 = .ok (.iload_n 1, 1) := by decide +kernel
theorem dX12_copy_63 : decode cX12_copy 63 = .ok (.iload_n 2, 1) := by decide +kernel
theorem dX12_copy_64 : decode cX12_copy 64 = .ok (.iload 5, 2) := by decide +kernel
theorem dX12_copy_66 : decode cX12_copy 66 = .ok (.invokevirtual 301, 3) := by decide +kernel
theorem dX12_copy_69 : decode cX12_copy 69 = .ok (.ifCond .eq 15, 3) := by decide +kernel
theorem dX12_copy_72 : decode cX12_copy 72 = .ok (.aload_n 0, 1) := by decide +kernel
theorem dX12_copy_73 : decode cX12_copy 73 = .ok (.iload_n 3, 1) := by decide +kernel
theorem dX12_copy_74 : decode cX12_copy 74 = .ok (.iload 4, 2) := by decide +kernel
theorem dX12_copy_76 : decode cX12_copy 76 = .ok (.iload 5, 2) := by decide +kernel
theorem dX12_copy_78 : decode cX12_copy 78 = .ok (.invokevirtual 301, 3) := by decide +kernel
theorem dX12_copy_81 : decode cX12_copy 81 = .ok (.ifCond .ne 6, 3) := by decide +kernel
theorem dX12_copy_84 : decode cX12_copy 84 = .ok (.bipush (-12), 2) := by decide +kernel
theorem dX12_copy_86 : decode cX12_copy 86 = .ok (.ireturn, 1) := by decide +kernel
theorem dX12_copy_87 : decode cX12_copy 87 = .ok (.iconst 0, 1) := by decide +kernel
theorem dX12_copy_88 : decode cX12_copy 88 = .ok (.istore 6, 2) := by decide +kernel
theorem dX12_copy_90 : decode cX12_copy 90 = .ok (.iload 6, 2) := by decide +kernel
theorem dX12_copy_92 : decode cX12_copy 92 = .ok (.iload 5, 2) := by decide +kernel
theorem dX12_copy_94 : decode cX12_copy 94 = .ok (.if_icmp .ge 30, 3) := by decide +kernel
theorem dX12_copy_97 : decode cX12_copy 97 = .ok (.aload_n 0, 1) := by decide +kernel
theorem dX12_copy_98 : decode cX12_copy 98 = .ok (.getfield 76, 3) := by decide +kernel
theorem dX12_copy_101 : decode cX12_copy 101 = .ok (.iload 6, 2) := by decide +kernel
theorem dX12_copy_103 : decode cX12_copy 103 = .ok (.aload_n 0, 1) := by decide +kernel
theorem dX12_copy_104 : decode cX12_copy 104 = .ok (.getfield 73, 3) := by decide +kernel
theorem dX12_copy_107 : decode cX12_copy 107 = .ok (.bipush 40, 2) := by decide +kernel
theorem dX12_copy_109 : decode cX12_copy 109 = .ok (.iload_n 1, 1) := by decide +kernel
theorem dX12_copy_110 : decode cX12_copy 110 = .ok (.imul, 1) := by decide +kernel
theorem dX12_copy_111 : decode cX12_copy 111 = .ok (.iload_n 2, 1) := by decide +kernel
theorem dX12_copy_112 : decode cX12_copy 112 = .ok (.iadd, 1) := by decide +kernel
theorem dX12_copy_113 : decode cX12_copy 113 = .ok (.iload 6, 2) := by decide +kernel
theorem dX12_copy_115 : decode cX12_copy 115 = .ok (.iadd, 1) := by decide +kernel
theorem dX12_copy_116 : decode cX12_copy 116 = .ok (.iaload, 1) := by decide +kernel
theorem dX12_copy_117 : decode cX12_copy 117 = .ok (.iastore, 1) := by decide +kernel
theorem dX12_copy_118 : decode cX12_copy 118 = .ok (.iinc 6 1, 3) := by decide +kernel
theorem dX12_copy_121 : decode cX12_copy 121 = .ok (.goto (-31), 3) := by decide +kernel
theorem dX12_copy_124 : decode cX12_copy 124 = .ok (.iconst 0, 1) := by decide +kernel
theorem dX12_copy_125 : decode cX12_copy 125 = .ok (.istore 6, 2) := by decide +kernel
theorem dX12_copy_127 : decode cX12_copy 127 = .ok (.iload 6, 2) := by decide +kernel
theorem dX12_copy_129 : decode cX12_copy 129 = .ok (.iload 5, 2) := by decide +kernel
theorem dX12_copy_131 : decode cX12_copy 131 = .ok (.if_icmp .ge 31, 3) := by decide +kernel
theorem dX12_copy_134 : decode cX12_copy 134 = .ok (.aload_n 0, 1) := by decide +kernel
theorem dX12_copy_135 : decode cX12_copy 135 = .ok (.getfield 73, 3) := by decide +kernel
theorem dX12_copy_138 : decode cX12_copy 138 = .ok (.bipush 40, 2) := by decide +kernel
theorem dX12_copy_140 : decode cX12_copy 140 = .ok (.iload_n 3, 1) := by decide +kernel
theorem dX12_copy_141 : decode cX12_copy 141 = .ok (.imul, 1) := by decide +kernel
theorem dX12_copy_142 : decode cX12_copy 142 = .ok (.iload 4, 2) := by decide +kernel
theorem dX12_copy_144 : decode cX12_copy 144 = .ok (.iadd, 1) := by decide +kernel
theorem dX12_copy_145 : decode cX12_copy 145 = .ok (.iload 6, 2) := by decide +kernel
theorem dX12_copy_147 : decode cX12_copy 147 = .ok (.iadd, 1) := by decide +kernel
theorem dX12_copy_148 : decode cX12_copy 148 = .ok (.aload_n 0, 1) := by decide +kernel
theorem dX12_copy_149 : decode cX12_copy 149 = .ok (.getfield 76, 3) := by decide +kernel
theorem dX12_copy_152 : decode cX12_copy 152 = .ok (.iload 6, 2) := by decide +kernel
theorem dX12_copy_154 : decode cX12_copy 154 = .ok (.iaload, 1) := by decide +kernel
theorem dX12_copy_155 : decode cX12_copy 155 = .ok (.iastore, 1) := by decide +kernel
theorem dX12_copy_156 : decode cX12_copy 156 = .ok (.iinc 6 1, 3) := by decide +kernel
theorem dX12_copy_159 : decode cX12_copy 159 = .ok (.goto (-32), 3) := by decide +kernel
theorem dX12_copy_162 : decode cX12_copy 162 = .ok (.iload 5, 2) := by decide +kernel
theorem dX12_copy_164 : decode cX12_copy 164 = .ok (.ireturn, 1) := by decide +kernel
theorem dX12_houses_0 : decode cX12_houses 0 = .ok (.iload_n 1, 1) := by decide +kernel
theorem dX12_houses_1 : decode cX12_houses 1 = .ok (.invokestatic 245, 3) := by decide +kernel
theorem dX12_houses_4 : decode cX12_houses 4 = .ok (.ifCond .eq 23, 3) := by decide +kernel
theorem dX12_houses_7 : decode cX12_houses 7 = .ok (.iload_n 2, 1) := by decide +kernel
theorem dX12_houses_8 : decode cX12_houses 8 = .ok (.iconst 0, 1) := by decide +kernel
theorem dX12_houses_9 : decode cX12_houses 9 = .ok (.iconst 2, 1) := by decide +kernel
theorem dX12_houses_10 : decode cX12_houses 10 = .ok (.invokestatic 92, 3) := by decide +kernel
theorem dX12_houses_13 : decode cX12_houses 13 = .ok (.ifCond .eq 14, 3) := by decide +kernel
theorem dX12_houses_16 : decode cX12_houses 16 = .ok (.iload 4, 2) := by decide +kernel
theorem dX12_houses_18 : decode cX12_houses 18 = .ok (.iconst 0, 1) := by decide +kernel
theorem dX12_houses_19 : decode cX12_houses 19 = .ok (.bipush 7, 2) := by decide +kernel
theorem dX12_houses_21 : decode cX12_houses 21 = .ok (.invokestatic 92, 3) := by decide +kernel
theorem dX12_houses_24 : decode cX12_houses 24 = .ok (.ifCond .ne 6, 3) := by decide +kernel
theorem dX12_houses_27 : decode cX12_houses 27 = .ok (.bipush (-2), 2) := by decide +kernel
theorem dX12_houses_29 : decode cX12_houses 29 = .ok (.ireturn, 1) := by decide +kernel
theorem dX12_houses_30 : decode cX12_houses 30 = .ok (.aload_n 0, 1) := by decide +kernel
theorem dX12_houses_31 : decode cX12_houses 31 = .ok (.getfield 67, 3) := by decide +kernel
theorem dX12_houses_34 : decode cX12_houses 34 = .ok (.iload_n 1, 1) := by decide +kernel
theorem dX12_houses_35 : decode cX12_houses 35 = .ok (.iaload, 1) := by decide +kernel
theorem dX12_houses_36 : decode cX12_houses 36 = .ok (.ifCond .ge 6, 3) := by decide +kernel
theorem dX12_houses_39 : decode cX12_houses 39 = .ok (.bipush (-11), 2) := by decide +kernel
theorem dX12_houses_41 : decode cX12_houses 41 = .ok (.ireturn, 1) := by decide +kernel
theorem dX12_houses_42 : decode cX12_houses 42 = .ok (.aload_n 0, 1) := by decide +kernel
theorem dX12_houses_43 : decode cX12_houses 43 = .ok (.getfield 67, 3) := by decide +kernel
theorem dX12_houses_46 : decode cX12_houses 46 = .ok (.iload_n 1, 1) := by decide +kernel
theorem dX12_houses_47 : decode cX12_houses 47 = .ok (.iaload, 1) := by decide +kernel
theorem dX12_houses_48 : decode cX12_houses 48 = .ok (.iload_n 2, 1) := by decide +kernel
theorem dX12_houses_49 : decode cX12_houses 49 = .ok (.if_icmp .eq 6, 3) := by decide +kernel
theorem dX12_houses_52 : decode cX12_houses 52 = .ok (.bipush (-13), 2) := by decide +kernel
theorem dX12_houses_54 : decode cX12_houses 54 = .ok (.ireturn, 1) := by decide +kernel
theorem dX12_houses_55 : decode cX12_houses 55 = .ok (.iconst 0, 1) := by decide +kernel
theorem dX12_houses_56 : decode cX12_houses 56 = .ok (.istore 5, 2) := by decide +kernel
theorem dX12_houses_58 : decode cX12_houses 58 = .ok (.iconst 0, 1) := by decide +kernel
theorem dX12_houses_59 : decode cX12_houses 59 = .ok (.istore 6, 2) := by decide +kernel
theorem dX12_houses_61 : decode cX12_houses 61 = .ok (.iload 6, 2) := by decide +kernel
theorem dX12_houses_63 : decode cX12_houses 63 = .ok (.iload 4, 2) := by decide +kernel
theorem dX12_houses_65 : decode cX12_houses 65 = .ok (.if_icmp .ge 85, 3) := by decide +kernel
theorem dX12_houses_68 : decode cX12_houses 68 = .ok (.iload_n 3, 1) := by decide +kernel
theorem dX12_houses_69 : decode cX12_houses 69 = .ok (.iconst 3, 1) := by decide +kernel
theorem dX12_houses_70 : decode cX12_houses 70 = .ok (.iload 6, 2) := by decide +kernel
theorem dX12_houses_72 : decode cX12_houses 72 = .ok (.imul, 1) := by decide +kernel
theorem dX12_houses_73 : decode cX12_houses 73 = .ok (.iadd, 1) := by decide +kernel
theorem dX12_houses_74 : decode cX12_houses 74 = .ok (.istore 7, 2) := by decide +kernel
theorem dX12_houses_76 : decode cX12_houses 76 = .ok (.iload_n 3, 1) := by decide +kernel
theorem dX12_houses_77 : decode cX12_houses 77 = .ok (.ifCond .lt 20, 3) := by decide +kernel
theorem dX12_houses_80 : decode cX12_houses 80 = .ok (.iload_n 3, 1) := by decide +kernel
theorem dX12_houses_81 : decode cX12_houses 81 = .ok (.aload_n 0, 1) := by decide +kernel
theorem dX12_houses_82 : decode cX12_houses 82 = .ok (.getfield 70, 3) := by decide +kernel
theorem dX12_houses_85 : decode cX12_houses 85 = .ok (.iload_n 1, 1) := by decide +kernel
theorem dX12_houses_86 : decode cX12_houses 86 = .ok (.iaload, 1) := by decide +kernel
theorem dX12_houses_87 : decode cX12_houses 87 = .ok (.iconst 2, 1) := by decide +kernel
theorem dX12_houses_88 : decode cX12_houses 88 = .ok (.isub, 1) := by decide +kernel
theorem dX12_houses_89 : decode cX12_houses 89 = .ok (.iconst 3, 1) := by decide +kernel
theorem dX12_houses_90 : decode cX12_houses 90 = .ok (.iload 6, 2) := by decide +kernel
theorem dX12_houses_92 : decode cX12_houses 92 = .ok (.imul, 1) := by decide +kernel
theorem dX12_houses_93 : decode cX12_houses 93 = .ok (.isub, 1) := by decide +kernel
theorem dX12_houses_94 : decode cX12_houses 94 = .ok (.if_icmp .lt 6, 3) := by decide +kernel
theorem dX12_houses_97 : decode cX12_houses 97 = .ok (.bipush (-12), 2) := by decide +kernel
theorem dX12_houses_99 : decode cX12_houses 99 = .ok (.ireturn, 1) := by decide +kernel
theorem dX12_houses_100 : decode cX12_houses 100 = .ok (.bipush 40, 2) := by decide +kernel
theorem dX12_houses_102 : decode cX12_houses 102 = .ok (.iload_n 1, 1) := by decide +kernel
theorem dX12_houses_103 : decode cX12_houses 103 = .ok (.imul, 1) := by decide +kernel
theorem dX12_houses_104 : decode cX12_houses 104 = .ok (.iload 7, 2) := by decide +kernel
theorem dX12_houses_106 : decode cX12_houses 106 = .ok (.iadd, 1) := by decide +kernel
theorem dX12_houses_107 : decode cX12_houses 107 = .ok (.istore 8, 2) := by decide +kernel
theorem dX12_houses_109 : decode cX12_houses 109 = .ok (.aload_n 0, 1) := by decide +kernel
theorem dX12_houses_110 : decode cX12_houses 110 = .ok (.aload_n 0, 1) := by decide +kernel
theorem dX12_houses_111 : decode cX12_houses 111 = .ok (.getfield 73, 3) := by decide +kernel
theorem dX12_houses_114 : decode cX12_houses 114 = .ok (.iload 8, 2) := by decide +kernel
theorem dX12_houses_116 : decode cX12_houses 116 = .ok (.iaload, 1) := by decide +kernel
theorem dX12_houses_117 : decode cX12_houses 117 = .ok (.aload_n 0, 1) := by decide +kernel
theorem dX12_houses_118 : decode cX12_houses 118 = .ok (.getfield 73, 3) := by decide +kernel
theorem dX12_houses_121 : decode cX12_houses 121 = .ok (.iload 8, 2) := by decide +kernel
theorem dX12_houses_123 : decode cX12_houses 123 = .ok (.iconst 1, 1) := by decide +kernel
theorem dX12_houses_124 : decode cX12_houses 124 = .ok (.iadd, 1) := by decide +kernel
theorem dX12_houses_125 : decode cX12_houses 125 = .ok (.iaload, 1) := by decide +kernel
theorem dX12_houses_126 : decode cX12_houses 126 = .ok (.aload_n 0, 1) := by decide +kernel
theorem dX12_houses_127 : decode cX12_houses 127 = .ok (.getfield 73, 3) := by decide +kernel
theorem dX12_houses_130 : decode cX12_houses 130 = .ok (.iload 8, 2) := by decide +kernel
theorem dX12_houses_132 : decode cX12_houses 132 = .ok (.iconst 2, 1) := by decide +kernel
theorem dX12_houses_133 : decode cX12_houses 133 = .ok (.iadd, 1) := by decide +kernel
theorem dX12_houses_134 : decode cX12_houses 134 = .ok (.iaload, 1) := by decide +kernel
theorem dX12_houses_135 : decode cX12_houses 135 = .ok (.invokevirtual 184, 3) := by decide +kernel
theorem dX12_houses_138 : decode cX12_houses 138 = .ok (.ifCond .lt 6, 3) := by decide +kernel
theorem dX12_houses_141 : decode cX12_houses 141 = .ok (.iinc 5 1, 3) := by decide +kernel
theorem dX12_houses_144 : decode cX12_houses 144 = .ok (.iinc 6 1, 3) := by decide +kernel
theorem dX12_houses_147 : decode cX12_houses 147 = .ok (.goto (-86), 3) := by decide +kernel
theorem dX12_houses_150 : decode cX12_houses 150 = .ok (.iload 5, 2) := by decide +kernel
theorem dX12_houses_152 : decode cX12_houses 152 = .ok (.ireturn, 1) := by decide +kernel
