set_option maxHeartbeats 1000000
set_option maxRecDepth 100000
theorem dX12_init_0 : decode cX12_init 0 = .ok (.aload_n 0, 1) := by decide +kernel
theorem dX12_init_1 : decode cX12_init 1 = .ok (.invokespecial 1, 3) := by decide +kernel
theorem dX12_init_4 : decode cX12_init 4 = .ok (.aload_n 0, 1) := by decide +kernel
theorem dX12_init_5 : decode cX12_init 5 = .ok (.bipush 12, 2) := by decide +kernel
theorem dX12_init_7 : decode cX12_init 7 = .ok (.newarray .int, 2) := by decide +kernel
theorem dX12_init_9 : decode cX12_init 9 = .ok (.dup, 1) := by decide +kernel
theorem dX12_init_10 : decode cX12_init 10 = .ok (.iconst 0, 1) := by decide +kernel
theorem dX12_init_11 : decode cX12_init 11 = .ok (.bipush 6, 2) := by decide +kernel
theorem dX12_init_13 : decode cX12_init 13 = .ok (.iastore, 1) := by decide +kernel
theorem dX12_init_14 : decode cX12_init 14 = .ok (.dup, 1) := by decide +kernel
theorem dX12_init_15 : decode cX12_init 15 = .ok (.iconst 1, 1) := by decide +kernel
theorem dX12_init_16 : decode cX12_init 16 = .ok (.iconst 2, 1) := by decide +kernel
theorem dX12_init_17 : decode cX12_init 17 = .ok (.iastore, 1) := by decide +kernel
theorem dX12_init_18 : decode cX12_init 18 = .ok (.dup, 1) := by decide +kernel
theorem dX12_init_19 : decode cX12_init 19 = .ok (.iconst 2, 1) := by decide +kernel
theorem dX12_init_20 : decode cX12_init 20 = .ok (.bipush 10, 2) := by decide +kernel
theorem dX12_init_22 : decode cX12_init 22 = .ok (.iastore, 1) := by decide +kernel
theorem dX12_init_23 : decode cX12_init 23 = .ok (.dup, 1) := by decide +kernel
theorem dX12_init_24 : decode cX12_init 24 = .ok (.iconst 3, 1) := by decide +kernel
theorem dX12_init_25 : decode cX12_init 25 = .ok (.iconst 2, 1) := by decide +kernel
theorem dX12_init_26 : decode cX12_init 26 = .ok (.iastore, 1) := by decide +kernel
theorem dX12_init_27 : decode cX12_init 27 = .ok (.dup, 1) := by decide +kernel
theorem dX12_init_28 : decode cX12_init 28 = .ok (.iconst 4, 1) := by decide +kernel
theorem dX12_init_29 : decode cX12_init 29 = .ok (.bipush 10, 2) := by decide +kernel
theorem dX12_init_31 : decode cX12_init 31 = .ok (.iastore, 1) := by decide +kernel
theorem dX12_init_32 : decode cX12_init 32 = .ok (.dup, 1) := by decide +kernel
theorem dX12_init_33 : decode cX12_init 33 = .ok (.iconst 5, 1) := by decide +kernel
theorem dX12_init_34 : decode cX12_init 34 = .ok (.iconst 2, 1) := by decide +kernel
theorem dX12_init_35 : decode cX12_init 35 = .ok (.iastore, 1) := by decide +kernel
theorem dX12_init_36 : decode cX12_init 36 = .ok (.dup, 1) := by decide +kernel
theorem dX12_init_37 : decode cX12_init 37 = .ok (.bipush 6, 2) := by decide +kernel
theorem dX12_init_39 : decode cX12_init 39 = .ok (.iconst 5, 1) := by decide +kernel
theorem dX12_init_40 : decode cX12_init 40 = .ok (.iastore, 1) := by decide +kernel
theorem dX12_init_41 : decode cX12_init 41 = .ok (.dup, 1) := by decide +kernel
theorem dX12_init_42 : decode cX12_init 42 = .ok (.bipush 7, 2) := by decide +kernel
theorem dX12_init_44 : decode cX12_init 44 = .ok (.iconst 5, 1) := by decide +kernel
theorem dX12_init_45 : decode cX12_init 45 = .ok (.iastore, 1) := by decide +kernel
theorem dX12_init_46 : decode cX12_init 46 = .ok (.dup, 1) := by decide +kernel
theorem dX12_init_47 : decode cX12_init 47 = .ok (.bipush 8, 2) := by decide +kernel
theorem dX12_init_49 : decode cX12_init 49 = .ok (.iconst 2, 1) := by decide +kernel
theorem dX12_init_50 : decode cX12_init 50 = .ok (.iastore, 1) := by decide +kernel
theorem dX12_init_51 : decode cX12_init 51 = .ok (.dup, 1) := by decide +kernel
theorem dX12_init_52 : decode cX12_init 52 = .ok (.bipush 9, 2) := by decide +kernel
theorem dX12_init_54 : decode cX12_init 54 = .ok (.iconst 5, 1) := by decide +kernel
theorem dX12_init_55 : decode cX12_init 55 = .ok (.iastore, 1) := by decide +kernel
theorem dX12_init_56 : decode cX12_init 56 = .ok (.dup, 1) := by decide +kernel
theorem dX12_init_57 : decode cX12_init 57 = .ok (.bipush 10, 2) := by decide +kernel
theorem dX12_init_59 : decode cX12_init 59 = .ok (.iconst 2, 1) := by decide +kernel
theorem dX12_init_60 : decode cX12_init 60 = .ok (.iastore, 1) := by decide +kernel
theorem dX12_init_61 : decode cX12_init 61 = .ok (.dup, 1) := by decide +kernel
theorem dX12_init_62 : decode cX12_init 62 = .ok (.bipush 11, 2) := by decide +kernel
theorem dX12_init_64 : decode cX12_init 64 = .ok (.iconst 5, 1) := by decide +kernel
theorem dX12_init_65 : decode cX12_init 65 = .ok (.iastore, 1) := by decide +kernel
theorem dX12_init_66 : decode cX12_init 66 = .ok (.putfield 7, 3) := by decide +kernel
theorem dX12_init_69 : decode cX12_init 69 = .ok (.aload_n 0, 1) := by decide +kernel
theorem dX12_init_70 : decode cX12_init 70 = .ok (.bipush 13, 2) := by decide +kernel
theorem dX12_init_72 : decode cX12_init 72 = .ok (.newarray .int, 2) := by decide +kernel
theorem dX12_init_74 : decode cX12_init 74 = .ok (.putfield 13, 3) := by decide +kernel
theorem dX12_init_77 : decode cX12_init 77 = .ok (.aload_n 0, 1) := by decide +kernel
theorem dX12_init_78 : decode cX12_init 78 = .ok (.bipush 13, 2) := by decide +kernel
theorem dX12_init_80 : decode cX12_init 80 = .ok (.newarray .int, 2) := by decide +kernel
theorem dX12_init_82 : decode cX12_init 82 = .ok (.putfield 16, 3) := by decide +kernel
theorem dX12_init_85 : decode cX12_init 85 = .ok (.aload_n 0, 1) := by decide +kernel
theorem dX12_init_86 : decode cX12_init 86 = .ok (.bipush 13, 2) := by decide +kernel
theorem dX12_init_88 : decode cX12_init 88 = .ok (.newarray .int, 2) := by decide +kernel
theorem dX12_init_90 : decode cX12_init 90 = .ok (.putfield 19, 3) := by decide +kernel
theorem dX12_init_93 : decode cX12_init 93 = .ok (.aload_n 0, 1) := by decide +kernel
theorem dX12_init_94 : decode cX12_init 94 = .ok (.sipush 601, 3) := by decide +kernel
theorem dX12_init_97 : decode cX12_init 97 = .ok (.newarray .int, 2) := by decide +kernel
theorem dX12_init_99 : decode cX12_init 99 = .ok (.putfield 22, 3) := by decide +kernel
theorem dX12_init_102 : decode cX12_init 102 = .ok (.aload_n 0, 1) := by decide +kernel
theorem dX12_init_103 : decode cX12_init 103 = .ok (.sipush 601, 3) := by decide +kernel
theorem dX12_init_106 : decode cX12_init 106 = .ok (.newarray .int, 2) := by decide +kernel
theorem dX12_init_108 : decode cX12_init 108 = .ok (.putfield 25, 3) := by decide +kernel
theorem dX12_init_111 : decode cX12_init 111 = .ok (.aload_n 0, 1) := by decide +kernel
theorem dX12_init_112 : decode cX12_init 112 = .ok (.bipush 20, 2) := by decide +kernel
theorem dX12_init_114 : decode cX12_init 114 = .ok (.newarray .int, 2) := by decide +kernel
theorem dX12_init_116 : decode cX12_init 116 = .ok (.putfield 28, 3) := by decide +kernel
theorem dX12_init_119 : decode cX12_init 119 = .ok (.aload_n 0, 1) := by decide +kernel
theorem dX12_init_120 : decode cX12_init 120 = .ok (.sipush 240, 3) := by decide +kernel
theorem dX12_init_123 : decode cX12_init 123 = .ok (.newarray .int, 2) := by decide +kernel
theorem dX12_init_125 : decode cX12_init 125 = .ok (.putfield 31, 3) := by decide +kernel
theorem dX12_init_128 : decode cX12_init 128 = .ok (.aload_n 0, 1) := by decide +kernel
theorem dX12_init_129 : decode cX12_init 129 = .ok (.sipush 240, 3) := by decide +kernel
theorem dX12_init_132 : decode cX12_init 132 = .ok (.newarray .int, 2) := by decide +kernel
theorem dX12_init_134 : decode cX12_init 134 = .ok (.putfield 34, 3) := by decide +kernel
theorem dX12_init_137 : decode cX12_init 137 = .ok (.aload_n 0, 1) := by decide +kernel
theorem dX12_init_138 : decode cX12_init 138 = .ok (.bipush 6, 2) := by decide +kernel
theorem dX12_init_140 : decode cX12_init 140 = .ok (.newarray .int, 2) := by decide +kernel
theorem dX12_init_142 : decode cX12_init 142 = .ok (.dup, 1) := by decide +kernel
theorem dX12_init_143 : decode cX12_init 143 = .ok (.iconst 0, 1) := by decide +kernel
theorem dX12_init_144 : decode cX12_init 144 = .ok (.iconst 1, 1) := by decide +kernel
theorem dX12_init_145 : decode cX12_init 145 = .ok (.iastore, 1) := by decide +kernel
theorem dX12_init_146 : decode cX12_init 146 = .ok (.dup, 1) := by decide +kernel
theorem dX12_init_147 : decode cX12_init 147 = .ok (.iconst 1, 1) := by decide +kernel
theorem dX12_init_148 : decode cX12_init 148 = .ok (.bipush 12, 2) := by decide +kernel
theorem dX12_init_150 : decode cX12_init 150 = .ok (.iastore, 1) := by decide +kernel
theorem dX12_init_151 : decode cX12_init 151 = .ok (.dup, 1) := by decide +kernel
theorem dX12_init_152 : decode cX12_init 152 = .ok (.iconst 2, 1) := by decide +kernel
theorem dX12_init_153 : decode cX12_init 153 = .ok (.sipush 240, 3) := by decide +kernel
theorem dX12_init_156 : decode cX12_init 156 = .ok (.iastore, 1) := by decide +kernel
theorem dX12_init_157 : decode cX12_init 157 = .ok (.dup, 1) := by decide +kernel
theorem dX12_init_158 : decode cX12_init 158 = .ok (.iconst 3, 1) := by decide +kernel
theorem dX12_init_159 : decode cX12_init 159 = .ok (.sipush 4800, 3) := by decide +kernel
theorem dX12_init_162 : decode cX12_init 162 = .ok (.iastore, 1) := by decide +kernel
theorem dX12_init_163 : decode cX12_init 163 = .ok (.dup, 1) := by decide +kernel
theorem dX12_init_164 : decode cX12_init 164 = .ok (.iconst 4, 1) := by decide +kernel
theorem dX12_init_165 : decode cX12_init 165 = .ok (.sipush 24000, 3) := by decide +kernel
theorem dX12_init_168 : decode cX12_init 168 = .ok (.iastore, 1) := by decide +kernel
theorem dX12_init_169 : decode cX12_init 169 = .ok (.dup, 1) := by decide +kernel
theorem dX12_init_170 : decode cX12_init 170 = .ok (.iconst 5, 1) := by decide +kernel
theorem dX12_init_171 : decode cX12_init 171 = .ok (.ldc 37, 2) := by decide +kernel
theorem dX12_init_173 : decode cX12_init 173 = .ok (.iastore, 1) := by decide +kernel
theorem dX12_init_174 : decode cX12_init 174 = .ok (.putfield 38, 3) := by decide +kernel
theorem dX12_init_177 : decode cX12_init 177 = .ok (.aload_n 0, 1) := by decide +kernel
theorem dX12_init_178 : decode cX12_init 178 = .ok (.iconst 3, 1) := by decide +kernel
theorem dX12_init_179 : decode cX12_init 179 = .ok (.putfield 41, 3) := by decide +kernel
theorem dX12_init_182 : decode cX12_init 182 = .ok (.aload_n 0, 1) := by decide +kernel
theorem dX12_init_183 : decode cX12_init 183 = .ok (.bipush 8, 2) := by decide +kernel
theorem dX12_init_185 : decode cX12_init 185 = .ok (.putfield 45, 3) := by decide +kernel
theorem dX12_init_188 : decode cX12_init 188 = .ok (.aload_n 0, 1) := by decide +kernel
theorem dX12_init_189 : decode cX12_init 189 = .ok (.bipush 20, 2) := by decide +kernel
theorem dX12_init_191 : decode cX12_init 191 = .ok (.putfield 48, 3) := by decide +kernel
theorem dX12_init_194 : decode cX12_init 194 = .ok (.aload_n 0, 1) := by decide +kernel
theorem dX12_init_195 : decode cX12_init 195 = .ok (.sipush 169, 3) := by decide +kernel
theorem dX12_init_198 : decode cX12_init 198 = .ok (.newarray .int, 2) := by decide +kernel
theorem dX12_init_200 : decode cX12_init 200 = .ok (.putfield 51, 3) := by decide +kernel
theorem dX12_init_203 : decode cX12_init 203 = .ok (.aload_n 0, 1) := by decide +kernel
theorem dX12_init_204 : decode cX12_init 204 = .ok (.sipush 11264, 3) := by decide +kernel
theorem dX12_init_207 : decode cX12_init 207 = .ok (.newarray .int, 2) := by decide +kernel
theorem dX12_init_209 : decode cX12_init 209 = .ok (.putfield 54, 3) := by decide +kernel
theorem dX12_init_212 : decode cX12_init 212 = .ok (.aload_n 0, 1) := by decide +kernel
theorem dX12_init_213 : decode cX12_init 213 = .ok (.bipush 10, 2) := by decide +kernel
theorem dX12_init_215 : decode cX12_init 215 = .ok (.newarray .int, 2) := by decide +kernel
theorem dX12_init_217 : decode cX12_init 217 = .ok (.putfield 57, 3) := by decide +kernel
theorem dX12_init_220 : decode cX12_init 220 = .ok (.aload_n 0, 1) := by decide +kernel
theorem dX12_init_221 : decode cX12_init 221 = .ok (.bipush 100, 2) := by decide +kernel
theorem dX12_init_223 : decode cX12_init 223 = .ok (.newarray .int, 2) := by decide +kernel
theorem dX12_init_225 : decode cX12_init 225 = .ok (.putfield 60, 3) := by decide +kernel
theorem dX12_init_228 : decode cX12_init 228 = .ok (.aload_n 0, 1) := by decide +kernel
theorem dX12_init_229 : decode cX12_init 229 = .ok (.sipush 600, 3) := by decide +kernel
theorem dX12_init_232 : decode cX12_init 232 = .ok (.newarray .int, 2) := by decide +kernel
theorem dX12_init_234 : decode cX12_init 234 = .ok (.putfield 63, 3) := by decide +kernel
theorem dX12_init_237 : decode cX12_init 237 = .ok (.aload_n 0, 1) := by decide +kernel
theorem dX12_init_238 : decode cX12_init 238 = .ok (.iconst (-1), 1) := by decide +kernel
theorem dX12_init_239 : decode cX12_init 239 = .ok (.putfield 66, 3) := by decide +kernel
theorem dX12_init_242 : decode cX12_init 242 = .ok (.aload_n 0, 1) := by decide +kernel
theorem dX12_init_243 : decode cX12_init 243 = .ok (.iconst 4, 1) := by decide +kernel
theorem dX12_init_244 : decode cX12_init 244 = .ok (.newarray .char, 2) := by decide +kernel
theorem dX12_init_246 : decode cX12_init 246 = .ok (.dup, 1) := by decide +kernel
theorem dX12_init_247 : decode cX12_init 247 = .ok (.iconst 0, 1) := by decide +kernel
theorem dX12_init_248 : decode cX12_init 248 = .ok (.bipush 102, 2) := by decide +kernel
theorem dX12_init_250 : decode cX12_init 250 = .ok (.castore, 1) := by decide +kernel
theorem dX12_init_251 : decode cX12_init 251 = .ok (.dup, 1) := by decide +kernel
theorem dX12_init_252 : decode cX12_init 252 = .ok (.iconst 1, 1) := by decide +kernel
theorem dX12_init_253 : decode cX12_init 253 = .ok (.bipush 97, 2) := by decide +kernel
theorem dX12_init_255 : decode cX12_init 255 = .ok (.castore, 1) := by decide +kernel
theorem dX12_init_256 : decode cX12_init 256 = .ok (.dup, 1) := by decide +kernel
theorem dX12_init_257 : decode cX12_init 257 = .ok (.iconst 2, 1) := by decide +kernel
theorem dX12_init_258 : decode cX12_init 258 = .ok (.bipush 114, 2) := by decide +kernel
theorem dX12_init_260 : decode cX12_init 260 = .ok (.castore, 1) := by decide +kernel
theorem dX12_init_261 : decode cX12_init 261 = .ok (.dup, 1) := by decide +kernel
theorem dX12_init_262 : decode cX12_init 262 = .ok (.iconst 3, 1) := by decide +kernel
theorem dX12_init_263 : decode cX12_init 263 = .ok (.bipush 109, 2) := by decide +kernel
theorem dX12_init_265 : decode cX12_init 265 = .ok (.castore, 1) := by decide +kernel
theorem dX12_init_266 : decode cX12_init 266 = .ok (.putfield 69, 3) := by decide +kernel
theorem dX12_init_269 : decode cX12_init 269 = .ok (.aload_n 0, 1) := by decide +kernel
theorem dX12_init_270 : decode cX12_init 270 = .ok (.bipush 8, 2) := by decide +kernel
theorem dX12_init_272 : decode cX12_init 272 = .ok (.newarray .char, 2) := by decide +kernel
theorem dX12_init_274 : decode cX12_init 274 = .ok (.dup, 1) := by decide +kernel
theorem dX12_init_275 : decode cX12_init 275 = .ok (.iconst 0, 1) := by decide +kernel
theorem dX12_init_276 : decode cX12_init 276 = .ok (.bipush 98, 2) := by decide +kernel
theorem dX12_init_278 : decode cX12_init 278 = .ok (.castore, 1) := by decide +kernel
theorem dX12_init_279 : decode cX12_init 279 = .ok (.dup, 1) := by decide +kernel
theorem dX12_init_280 : decode cX12_init 280 = .ok (.iconst 1, 1) := by decide +kernel
theorem dX12_init_281 : decode cX12_init 281 = .ok (.bipush 108, 2) := by decide +kernel
theorem dX12_init_283 : decode cX12_init 283 = .ok (.castore, 1) := by decide +kernel
theorem dX12_init_284 : decode cX12_init 284 = .ok (.dup, 1) := by decide +kernel
theorem dX12_init_285 : decode cX12_init 285 = .ok (.iconst 2, 1) := by decide +kernel
theorem dX12_init_286 : decode cX12_init 286 = .ok (.bipush 97, 2) := by decide +kernel
theorem dX12_init_288 : decode cX12_init 288 = .ok (.castore, 1) := by decide +kernel
theorem dX12_init_289 : decode cX12_init 289 = .ok (.dup, 1) := by decide +kernel
theorem dX12_init_290 : decode cX12_init 290 = .ok (.iconst 3, 1) := by decide +kernel
theorem dX12_init_291 : decode cX12_init 291 = .ok (.bipush 110, 2) := by decide +kernel
theorem dX12_init_293 : decode cX12_init 293 = .ok (.castore, 1) := by decide +kernel
theorem dX12_init_294 : decode cX12_init 294 = .ok (.dup, 1) := by decide +kernel
theorem dX12_init_295 : decode cX12_init 295 = .ok (.iconst 4, 1) := by decide +kernel
theorem dX12_init_296 : decode cX12_init 296 = .ok (.bipush 99, 2) := by decide +kernel
theorem dX12_init_298 : decode cX12_init 298 = .ok (.castore, 1) := by decide +kernel
theorem dX12_init_299 : decode cX12_init 299 = .ok (.dup, 1) := by decide +kernel
theorem dX12_init_300 : decode cX12_init 300 = .ok (.iconst 5, 1) := by decide +kernel
theorem dX12_init_301 : decode cX12_init 301 = .ok (.bipush 104, 2) := by decide +kernel
theorem dX12_init_303 : decode cX12_init 303 = .ok (.castore, 1) := by decide +kernel
theorem dX12_init_304 : decode cX12_init 304 = .ok (.dup, 1) := by decide +kernel
theorem dX12_init_305 : decode cX12_init 305 = .ok (.bipush 6, 2) := by decide +kernel
theorem dX12_init_307 : decode cX12_init 307 = .ok (.bipush 101, 2) := by decide +kernel
theorem dX12_init_309 : decode cX12_init 309 = .ok (.castore, 1) := by decide +kernel
theorem dX12_init_310 : decode cX12_init 310 = .ok (.dup, 1) := by decide +kernel
theorem dX12_init_311 : decode cX12_init 311 = .ok (.bipush 7, 2) := by decide +kernel
theorem dX12_init_313 : decode cX12_init 313 = .ok (.bipush 100, 2) := by decide +kernel
theorem dX12_init_315 : decode cX12_init 315 = .ok (.castore, 1) := by decide +kernel
theorem dX12_init_316 : decode cX12_init 316 = .ok (.putfield 73, 3) := by decide +kernel
theorem dX12_init_319 : decode cX12_init 319 = .ok (.aload_n 0, 1) := by decide +kernel
theorem dX12_init_320 : decode cX12_init 320 = .ok (.iconst 5, 1) := by decide +kernel
theorem dX12_init_321 : decode cX12_init 321 = .ok (.newarray .char, 2) := by decide +kernel
theorem dX12_init_323 : decode cX12_init 323 = .ok (.dup, 1) := by decide +kernel
theorem dX12_init_324 : decode cX12_init 324 = .ok (.iconst 0, 1) := by decide +kernel
theorem dX12_init_325 : decode cX12_init 325 = .ok (.bipush 97, 2) := by decide +kernel
theorem dX12_init_327 : decode cX12_init 327 = .ok (.castore, 1) := by decide +kernel
theorem dX12_init_328 : decode cX12_init 328 = .ok (.dup, 1) := by decide +kernel
theorem dX12_init_329 : decode cX12_init 329 = .ok (.iconst 1, 1) := by decide +kernel
theorem dX12_init_330 : decode cX12_init 330 = .ok (.bipush 108, 2) := by decide +kernel
theorem dX12_init_332 : decode cX12_init 332 = .ok (.castore, 1) := by decide +kernel
theorem dX12_init_333 : decode cX12_init 333 = .ok (.dup, 1) := by decide +kernel
theorem dX12_init_334 : decode cX12_init 334 = .ok (.iconst 2, 1) := by decide +kernel
theorem dX12_init_335 : decode cX12_init 335 = .ok (.bipush 108, 2) := by decide +kernel
theorem dX12_init_337 : decode cX12_init 337 = .ok (.castore, 1) := by decide +kernel
theorem dX12_init_338 : decode cX12_init 338 = .ok (.dup, 1) := by decide +kernel
theorem dX12_init_339 : decode cX12_init 339 = .ok (.iconst 3, 1) := by decide +kernel
theorem dX12_init_340 : decode cX12_init 340 = .ok (.bipush 111, 2) := by decide +kernel
theorem dX12_init_342 : decode cX12_init 342 = .ok (.castore, 1) := by decide +kernel
theorem dX12_init_343 : decode cX12_init 343 = .ok (.dup, 1) := by decide +kernel
theorem dX12_init_344 : decode cX12_init 344 = .ok (.iconst 4, 1) := by decide +kernel
theorem dX12_init_345 : decode cX12_init 345 = .ok (.bipush 119, 2) := by decide +kernel
theorem dX12_init_347 : decode cX12_init 347 = .ok (.castore, 1) := by decide +kernel
theorem dX12_init_348 : decode cX12_init 348 = .ok (.putfield 76, 3) := by decide +kernel
theorem dX12_init_351 : decode cX12_init 351 = .ok (.aload_n 0, 1) := by decide +kernel
theorem dX12_init_352 : decode cX12_init 352 = .ok (.bipush 6, 2) := by decide +kernel
theorem dX12_init_354 : decode cX12_init 354 = .ok (.newarray .char, 2) := by decide +kernel
theorem dX12_init_356 : decode cX12_init 356 = .ok (.dup, 1) := by decide +kernel
theorem dX12_init_357 : decode cX12_init 357 = .ok (.iconst 0, 1) := by decide +kernel
theorem dX12_init_358 : decode cX12_init 358 = .ok (.bipush 112, 2) := by decide +kernel
theorem dX12_init_360 : decode cX12_init 360 = .ok (.castore, 1) := by decide +kernel
theorem dX12_init_361 : decode cX12_init 361 = .ok (.dup, 1) := by decide +kernel
theorem dX12_init_362 : decode cX12_init 362 = .ok (.iconst 1, 1) := by decide +kernel
theorem dX12_init_363 : decode cX12_init 363 = .ok (.bipush 97, 2) := by decide +kernel
theorem dX12_init_365 : decode cX12_init 365 = .ok (.castore, 1) := by decide +kernel
theorem dX12_init_366 : decode cX12_init 366 = .ok (.dup, 1) := by decide +kernel
theorem dX12_init_367 : decode cX12_init 367 = .ok (.iconst 2, 1) := by decide +kernel
theorem dX12_init_368 : decode cX12_init 368 = .ok (.bipush 114, 2) := by decide +kernel
theorem dX12_init_370 : decode cX12_init 370 = .ok (.castore, 1) := by decide +kernel
theorem dX12_init_371 : decode cX12_init 371 = .ok (.dup, 1) := by decide +kernel
theorem dX12_init_372 : decode cX12_init 372 = .ok (.iconst 3, 1) := by decide +kernel
theorem dX12_init_373 : decode cX12_init 373 = .ok (.bipush 100, 2) := by decide +kernel
theorem dX12_init_375 : decode cX12_init 375 = .ok (.castore, 1) := by decide +kernel
theorem dX12_init_376 : decode cX12_init 376 = .ok (.dup, 1) := by decide +kernel
theorem dX12_init_377 : decode cX12_init 377 = .ok (.iconst 4, 1) := by decide +kernel
theorem dX12_init_378 : decode cX12_init 378 = .ok (.bipush 111, 2) := by decide +kernel
theorem dX12_init_380 : decode cX12_init 380 = .ok (.castore, 1) := by decide +kernel
theorem dX12_init_381 : decode cX12_init 381 = .ok (.dup, 1) := by decide +kernel
theorem dX12_init_382 : decode cX12_init 382 = .ok (.iconst 5, 1) := by decide +kernel
theorem dX12_init_383 : decode cX12_init 383 = .ok (.bipush 110, 2) := by decide +kernel
theorem dX12_init_385 : decode cX12_init 385 = .ok (.castore, 1) := by decide +kernel
theorem dX12_init_386 : decode cX12_init 386 = .ok (.putfield 79, 3) := by decide +kernel
theorem dX12_init_389 : decode cX12_init 389 = .ok (.aload_n 0, 1) := by decide +kernel
theorem dX12_init_390 : decode cX12_init 390 = .ok (.iconst 5, 1) := by decide +kernel
theorem dX12_init_391 : decode cX12_init 391 = .ok (.newarray .char, 2) := by decide +kernel
theorem dX12_init_393 : decode cX12_init 393 = .ok (.dup, 1) := by decide +kernel
theorem dX12_init_394 : decode cX12_init 394 = .ok (.iconst 0, 1) := by decide +kernel
theorem dX12_init_395 : decode cX12_init 395 = .ok (.bipush 115, 2) := by decide +kernel
theorem dX12_init_397 : decode cX12_init 397 = .ok (.castore, 1) := by decide +kernel
theorem dX12_init_398 : decode cX12_init 398 = .ok (.dup, 1) := by decide +kernel
theorem dX12_init_399 : decode cX12_init 399 = .ok (.iconst 1, 1) := by decide +kernel
theorem dX12_init_400 : decode cX12_init 400 = .ok (.bipush 112, 2) := by decide +kernel
theorem dX12_init_402 : decode cX12_init 402 = .ok (.castore, 1) := by decide +kernel
theorem dX12_init_403 : decode cX12_init 403 = .ok (.dup, 1) := by decide +kernel
theorem dX12_init_404 : decode cX12_init 404 = .ok (.iconst 2, 1) := by decide +kernel
theorem dX12_init_405 : decode cX12_init 405 = .ok (.bipush 108, 2) := by decide +kernel
theorem dX12_init_407 : decode cX12_init 407 = .ok (.castore, 1) := by decide +kernel
theorem dX12_init_408 : decode cX12_init 408 = .ok (.dup, 1) := by decide +kernel
theorem dX12_init_409 : decode cX12_init 409 = .ok (.iconst 3, 1) := by decide +kernel
theorem dX12_init_410 : decode cX12_init 410 = .ok (.bipush 105, 2) := by decide +kernel
theorem dX12_init_412 : decode cX12_init 412 = .ok (.castore, 1) := by decide +kernel
theorem dX12_init_413 : decode cX12_init 413 = .ok (.dup, 1) := by decide +kernel
theorem dX12_init_414 : decode cX12_init 414 = .ok (.iconst 4, 1) := by decide +kernel
theorem dX12_init_415 : decode cX12_init 415 = .ok (.bipush 116, 2) := by decide +kernel
theorem dX12_init_417 : decode cX12_init 417 = .ok (.castore, 1) := by decide +kernel
theorem dX12_init_418 : decode cX12_init 418 = .ok (.putfield 82, 3) := by decide +kernel
theorem dX12_init_421 : decode cX12_init 421 = .ok (.aload_n 0, 1) := by decide +kernel
theorem dX12_init_422 : decode cX12_init 422 = .ok (.iconst 2, 1) := by decide +kernel
theorem dX12_init_423 : decode cX12_init 423 = .ok (.newarray .char, 2) := by decide +kernel
theorem dX12_init_425 : decode cX12_init 425 = .ok (.dup, 1) := by decide +kernel
theorem dX12_init_426 : decode cX12_init 426 = .ok (.iconst 0, 1) := by decide +kernel
theorem dX12_init_427 : decode cX12_init 427 = .ok (.bipush 105, 2) := by decide +kernel
theorem dX12_init_429 : decode cX12_init 429 = .ok (.castore, 1) := by decide +kernel
theorem dX12_init_430 : decode cX12_init 430 = .ok (.dup, 1) := by decide +kernel
theorem dX12_init_431 : decode cX12_init 431 = .ok (.iconst 1, 1) := by decide +kernel
theorem dX12_init_432 : decode cX12_init 432 = .ok (.bipush 110, 2) := by decide +kernel
theorem dX12_init_434 : decode cX12_init 434 = .ok (.castore, 1) := by decide +kernel
theorem dX12_init_435 : decode cX12_init 435 = .ok (.putfield 85, 3) := by decide +kernel
theorem dX12_init_438 : decode cX12_init 438 = .ok (.aload_n 0, 1) := by decide +kernel
theorem dX12_init_439 : decode cX12_init 439 = .ok (.iconst 3, 1) := by decide +kernel
theorem dX12_init_440 : decode cX12_init 440 = .ok (.newarray .char, 2) := by decide +kernel
theorem dX12_init_442 : decode cX12_init 442 = .ok (.dup, 1) := by decide +kernel
theorem dX12_init_443 : decode cX12_init 443 = .ok (.iconst 0, 1) := by decide +kernel
theorem dX12_init_444 : decode cX12_init 444 = .ok (.bipush 102, 2) := by decide +kernel
theorem dX12_init_446 : decode cX12_init 446 = .ok (.castore, 1) := by decide +kernel
theorem dX12_init_447 : decode cX12_init 447 = .ok (.dup, 1) := by decide +kernel
theorem dX12_init_448 : decode cX12_init 448 = .ok (.iconst 1, 1) := by decide +kernel
theorem dX12_init_449 : decode cX12_init 449 = .ok (.bipush 111, 2) := by decide +kernel
theorem dX12_init_451 : decode cX12_init 451 = .ok (.castore, 1) := by decide +kernel
theorem dX12_init_452 : decode cX12_init 452 = .ok (.dup, 1) := by decide +kernel
theorem dX12_init_453 : decode cX12_init 453 = .ok (.iconst 2, 1) := by decide +kernel
theorem dX12_init_454 : decode cX12_init 454 = .ok (.bipush 114, 2) := by decide +kernel
theorem dX12_init_456 : decode cX12_init 456 = .ok (.castore, 1) := by decide +kernel
theorem dX12_init_457 : decode cX12_init 457 = .ok (.putfield 88, 3) := by decide +kernel
theorem dX12_init_460 : decode cX12_init 460 = .ok (.aload_n 0, 1) := by decide +kernel
theorem dX12_init_461 : decode cX12_init 461 = .ok (.iconst 2, 1) := by decide +kernel
theorem dX12_init_462 : decode cX12_init 462 = .ok (.newarray .char, 2) := by decide +kernel
theorem dX12_init_464 : decode cX12_init 464 = .ok (.dup, 1) := by decide +kernel
theorem dX12_init_465 : decode cX12_init 465 = .ok (.iconst 0, 1) := by decide +kernel
theorem dX12_init_466 : decode cX12_init 466 = .ok (.bipush 111, 2) := by decide +kernel
theorem dX12_init_468 : decode cX12_init 468 = .ok (.castore, 1) := by decide +kernel
theorem dX12_init_469 : decode cX12_init 469 = .ok (.dup, 1) := by decide +kernel
theorem dX12_init_470 : decode cX12_init 470 = .ok (.iconst 1, 1) := by decide +kernel
theorem dX12_init_471 : decode cX12_init 471 = .ok (.bipush 114, 2) := by decide +kernel
theorem dX12_init_473 : decode cX12_init 473 = .ok (.castore, 1) := by decide +kernel
theorem dX12_init_474 : decode cX12_init 474 = .ok (.putfield 91, 3) := by decide +kernel
theorem dX12_init_477 : decode cX12_init 477 = .ok (.aload_n 0, 1) := by decide +kernel
theorem dX12_init_478 : decode cX12_init 478 = .ok (.iconst 3, 1) := by decide +kernel
theorem dX12_init_479 : decode cX12_init 479 = .ok (.newarray .char, 2) := by decide +kernel
theorem dX12_init_481 : decode cX12_init 481 = .ok (.dup, 1) := by decide +kernel
theorem dX12_init_482 : decode cX12_init 482 = .ok (.iconst 0, 1) := by decide +kernel
theorem dX12_init_483 : decode cX12_init 483 = .ok (.bipush 97, 2) := by decide +kernel
theorem dX12_init_485 : decode cX12_init 485 = .ok (.castore, 1) := by decide +kernel
theorem dX12_init_486 : decode cX12_init 486 = .ok (.dup, 1) := by decide +kernel
theorem dX12_init_487 : decode cX12_init 487 = .ok (.iconst 1, 1) := by decide +kernel
theorem dX12_init_488 : decode cX12_init 488 = .ok (.bipush 110, 2) := by decide +kernel
theorem dX12_init_490 : decode cX12_init 490 = .ok (.castore, 1) := by decide +kernel
theorem dX12_init_491 : decode cX12_init 491 = .ok (.dup, 1) := by decide +kernel
theorem dX12_init_492 : decode cX12_init 492 = .ok (.iconst 2, 1) := by decide +kernel
theorem dX12_init_493 : decode cX12_init 493 = .ok (.bipush 100, 2) := by decide +kernel
theorem dX12_init_495 : decode cX12_init 495 = .ok (.castore, 1) := by decide +kernel
theorem dX12_init_496 : decode cX12_init 496 = .ok (.putfield 94, 3) := by decide +kernel
theorem dX12_init_499 : decode cX12_init 499 = .ok (.aload_n 0, 1) := by decide +kernel
theorem dX12_init_500 : decode cX12_init 500 = .ok (.iconst 3, 1) := by decide +kernel
theorem dX12_init_501 : decode cX12_init 501 = .ok (.newarray .char, 2) := by decide +kernel
theorem dX12_init_503 : decode cX12_init 503 = .ok (.dup, 1) := by decide +kernel
theorem dX12_init_504 : decode cX12_init 504 = .ok (.iconst 0, 1) := by decide +kernel
theorem dX12_init_505 : decode cX12_init 505 = .ok (.bipush 110, 2) := by decide +kernel
theorem dX12_init_507 : decode cX12_init 507 = .ok (.castore, 1) := by decide +kernel
theorem dX12_init_508 : decode cX12_init 508 = .ok (.dup, 1) := by decide +kernel
theorem dX12_init_509 : decode cX12_init 509 = .ok (.iconst 1, 1) := by decide +kernel
theorem dX12_init_510 : decode cX12_init 510 = .ok (.bipush 111, 2) := by decide +kernel
theorem dX12_init_512 : decode cX12_init 512 = .ok (.castore, 1) := by decide +kernel
theorem dX12_init_513 : decode cX12_init 513 = .ok (.dup, 1) := by decide +kernel
theorem dX12_init_514 : decode cX12_init 514 = .ok (.iconst 2, 1) := by decide +kernel
theorem dX12_init_515 : decode cX12_init 515 = .ok (.bipush 116, 2) := by decide +kernel
theorem dX12_init_517 : decode cX12_init 517 = .ok (.castore, 1) := by decide +kernel
theorem dX12_init_518 : decode cX12_init 518 = .ok (.putfield 97, 3) := by decide +kernel
theorem dX12_init_521 : decode cX12_init 521 = .ok (.aload_n 0, 1) := by decide +kernel
theorem dX12_init_522 : decode cX12_init 522 = .ok (.iconst 3, 1) := by decide +kernel
theorem dX12_init_523 : decode cX12_init 523 = .ok (.newarray .char, 2) := by decide +kernel
theorem dX12_init_525 : decode cX12_init 525 = .ok (.dup, 1) := by decide +kernel
theorem dX12_init_526 : decode cX12_init 526 = .ok (.iconst 0, 1) := by decide +kernel
theorem dX12_init_527 : decode cX12_init 527 = .ok (.bipush 97, 2) := by decide +kernel
theorem dX12_init_529 : decode cX12_init 529 = .ok (.castore, 1) := by decide +kernel
theorem dX12_init_530 : decode cX12_init 530 = .ok (.dup, 1) := by decide +kernel
theorem dX12_init_531 : decode cX12_init 531 = .ok (.iconst 1, 1) := by decide +kernel
theorem dX12_init_532 : decode cX12_init 532 = .ok (.bipush 108, 2) := by decide +kernel
theorem dX12_init_534 : decode cX12_init 534 = .ok (.castore, 1) := by decide +kernel
theorem dX12_init_535 : decode cX12_init 535 = .ok (.dup, 1) := by decide +kernel
theorem dX12_init_536 : decode cX12_init 536 = .ok (.iconst 2, 1) := by decide +kernel
theorem dX12_init_537 : decode cX12_init 537 = .ok (.bipush 108, 2) := by decide +kernel
theorem dX12_init_539 : decode cX12_init 539 = .ok (.castore, 1) := by decide +kernel
theorem dX12_init_540 : decode cX12_init 540 = .ok (.putfield 100, 3) := by decide +kernel
theorem dX12_init_543 : decode cX12_init 543 = .ok (.aload_n 0, 1) := by decide +kernel
theorem dX12_init_544 : decode cX12_init 544 = .ok (.iconst 5, 1) := by decide +kernel
theorem dX12_init_545 : decode cX12_init 545 = .ok (.newarray .char, 2) := by decide +kernel
theorem dX12_init_547 : decode cX12_init 547 = .ok (.dup, 1) := by decide +kernel
theorem dX12_init_548 : decode cX12_init 548 = .ok (.iconst 0, 1) := by decide +kernel
theorem dX12_init_549 : decode cX12_init 549 = .ok (.bipush 115, 2) := by decide +kernel
theorem dX12_init_551 : decode cX12_init 551 = .ok (.castore, 1) := by decide +kernel
theorem dX12_init_552 : decode cX12_init 552 = .ok (.dup, 1) := by decide +kernel
theorem dX12_init_553 : decode cX12_init 553 = .ok (.iconst 1, 1) := by decide +kernel
theorem dX12_init_554 : decode cX12_init 554 = .ok (.bipush 104, 2) := by decide +kernel
theorem dX12_init_556 : decode cX12_init 556 = .ok (.castore, 1) := by decide +kernel
theorem dX12_init_557 : decode cX12_init 557 = .ok (.dup, 1) := by decide +kernel
theorem dX12_init_558 : decode cX12_init 558 = .ok (.iconst 2, 1) := by decide +kernel
theorem dX12_init_559 : decode cX12_init 559 = .ok (.bipush 105, 2) := by decide +kernel
theorem dX12_init_561 : decode cX12_init 561 = .ok (.castore, 1) := by decide +kernel
theorem dX12_init_562 : decode cX12_init 562 = .ok (.dup, 1) := by decide +kernel
theorem dX12_init_563 : decode cX12_init 563 = .ok (.iconst 3, 1) := by decide +kernel
theorem dX12_init_564 : decode cX12_init 564 = .ok (.bipush 114, 2) := by decide +kernel
theorem dX12_init_566 : decode cX12_init 566 = .ok (.castore, 1) := by decide +kernel
theorem dX12_init_567 : decode cX12_init 567 = .ok (.dup, 1) := by decide +kernel
theorem dX12_init_568 : decode cX12_init 568 = .ok (.iconst 4, 1) := by decide +kernel
theorem dX12_init_569 : decode cX12_init 569 = .ok (.bipush 101, 2) := by decide +kernel
theorem dX12_init_571 : decode cX12_init 571 = .ok (.castore, 1) := by decide +kernel
theorem dX12_init_572 : decode cX12_init 572 = .ok (.putfield 103, 3) := by decide +kernel
theorem dX12_init_575 : decode cX12_init 575 = .ok (.aload_n 0, 1) := by decide +kernel
theorem dX12_init_576 : decode cX12_init 576 = .ok (.iconst 5, 1) := by decide +kernel
theorem dX12_init_577 : decode cX12_init 577 = .ok (.newarray .char, 2) := by decide +kernel
theorem dX12_init_579 : decode cX12_init 579 = .ok (.dup, 1) := by decide +kernel
theorem dX12_init_580 : decode cX12_init 580 = .ok (.iconst 0, 1) := by decide +kernel
theorem dX12_init_581 : decode cX12_init 581 = .ok (.bipush 112, 2) := by decide +kernel
theorem dX12_init_583 : decode cX12_init 583 = .ok (.castore, 1) := by decide +kernel
theorem dX12_init_584 : decode cX12_init 584 = .ok (.dup, 1) := by decide +kernel
theorem dX12_init_585 : decode cX12_init 585 = .ok (.iconst 1, 1) := by decide +kernel
theorem dX12_init_586 : decode cX12_init 586 = .ok (.bipush 101, 2) := by decide +kernel
theorem dX12_init_588 : decode cX12_init 588 = .ok (.castore, 1) := by decide +kernel
theorem dX12_init_589 : decode cX12_init 589 = .ok (.dup, 1) := by decide +kernel
theorem dX12_init_590 : decode cX12_init 590 = .ok (.iconst 2, 1) := by decide +kernel
theorem dX12_init_591 : decode cX12_init 591 = .ok (.bipush 110, 2) := by decide +kernel
theorem dX12_init_593 : decode cX12_init 593 = .ok (.castore, 1) := by decide +kernel
theorem dX12_init_594 : decode cX12_init 594 = .ok (.dup, 1) := by decide +kernel
theorem dX12_init_595 : decode cX12_init 595 = .ok (.iconst 3, 1) := by decide +kernel
theorem dX12_init_596 : decode cX12_init 596 = .ok (.bipush 99, 2) := by decide +kernel
theorem dX12_init_598 : decode cX12_init 598 = .ok (.castore, 1) := by decide +kernel
theorem dX12_init_599 : decode cX12_init 599 = .ok (.dup, 1) := by decide +kernel
theorem dX12_init_600 : decode cX12_init 600 = .ok (.iconst 4, 1) := by decide +kernel
theorem dX12_init_601 : decode cX12_init 601 = .ok (.bipush 101, 2) := by decide +kernel
theorem dX12_init_603 : decode cX12_init 603 = .ok (.castore, 1) := by decide +kernel
theorem dX12_init_604 : decode cX12_init 604 = .ok (.putfield 106, 3) := by decide +kernel
theorem dX12_init_607 : decode cX12_init 607 = .ok (.aload_n 0, 1) := by decide +kernel
theorem dX12_init_608 : decode cX12_init 608 = .ok (.bipush 9, 2) := by decide +kernel
theorem dX12_init_610 : decode cX12_init 610 = .ok (.newarray .char, 2) := by decide +kernel
theorem dX12_init_612 : decode cX12_init 612 = .ok (.dup, 1) := by decide +kernel
theorem dX12_init_613 : decode cX12_init 613 = .ok (.iconst 0, 1) := by decide +kernel
theorem dX12_init_614 : decode cX12_init 614 = .ok (.bipush 115, 2) := by decide +kernel
theorem dX12_init_616 : decode cX12_init 616 = .ok (.castore, 1) := by decide +kernel
theorem dX12_init_617 : decode cX12_init 617 = .ok (.dup, 1) := by decide +kernel
theorem dX12_init_618 : decode cX12_init 618 = .ok (.iconst 1, 1) := by decide +kernel
theorem dX12_init_619 : decode cX12_init 619 = .ok (.bipush 104, 2) := by decide +kernel
theorem dX12_init_621 : decode cX12_init 621 = .ok (.castore, 1) := by decide +kernel
theorem dX12_init_622 : decode cX12_init 622 = .ok (.dup, 1) := by decide +kernel
theorem dX12_init_623 : decode cX12_init 623 = .ok (.iconst 2, 1) := by decide +kernel
theorem dX12_init_624 : decode cX12_init 624 = .ok (.bipush 105, 2) := by decide +kernel
theorem dX12_init_626 : decode cX12_init 626 = .ok (.castore, 1) := by decide +kernel
theorem dX12_init_627 : decode cX12_init 627 = .ok (.dup, 1) := by decide +kernel
theorem dX12_init_628 : decode cX12_init 628 = .ok (.iconst 3, 1) := by decide +kernel
theorem dX12_init_629 : decode cX12_init 629 = .ok (.bipush 108, 2) := by decide +kernel
theorem dX12_init_631 : decode cX12_init 631 = .ok (.castore, 1) := by decide +kernel
theorem dX12_init_632 : decode cX12_init 632 = .ok (.dup, 1) := by decide +kernel
theorem dX12_init_633 : decode cX12_init 633 = .ok (.iconst 4, 1) := by decide +kernel
theorem dX12_init_634 : decode cX12_init 634 = .ok (.bipush 108, 2) := by decide +kernel
theorem dX12_init_636 : decode cX12_init 636 = .ok (.castore, 1) := by decide +kernel
theorem dX12_init_637 : decode cX12_init 637 = .ok (.dup, 1) := by decide +kernel
theorem dX12_init_638 : decode cX12_init 638 = .ok (.iconst 5, 1) := by decide +kernel
theorem dX12_init_639 : decode cX12_init 639 = .ok (.bipush 105, 2) := by decide +kernel
theorem dX12_init_641 : decode cX12_init 641 = .ok (.castore, 1) := by decide +kernel
theorem dX12_init_642 : decode cX12_init 642 = .ok (.dup, 1) := by decide +kernel
theorem dX12_init_643 : decode cX12_init 643 = .ok (.bipush 6, 2) := by decide +kernel
theorem dX12_init_645 : decode cX12_init 645 = .ok (.bipush 110, 2) := by decide +kernel
theorem dX12_init_647 : decode cX12_init 647 = .ok (.castore, 1) := by decide +kernel
theorem dX12_init_648 : decode cX12_init 648 = .ok (.dup, 1) := by decide +kernel
theorem dX12_init_649 : decode cX12_init 649 = .ok (.bipush 7, 2) := by decide +kernel
theorem dX12_init_651 : decode cX12_init 651 = .ok (.bipush 103, 2) := by decide +kernel
theorem dX12_init_653 : decode cX12_init 653 = .ok (.castore, 1) := by decide +kernel
theorem dX12_init_654 : decode cX12_init 654 = .ok (.dup, 1) := by decide +kernel
theorem dX12_init_655 : decode cX12_init 655 = .ok (.bipush 8, 2) := by decide +kernel
theorem dX12_init_657 : decode cX12_init 657 = .ok (.bipush 115, 2) := by decide +kernel
theorem dX12_init_659 : decode cX12_init 659 = .ok (.castore, 1) := by decide +kernel
theorem dX12_init_660 : decode cX12_init 660 = .ok (.putfield 109, 3) := by decide +kernel
theorem dX12_init_663 : decode cX12_init 663 = .ok (.aload_n 0, 1) := by decide +kernel
theorem dX12_init_664 : decode cX12_init 664 = .ok (.bipush 6, 2) := by decide +kernel
theorem dX12_init_666 : decode cX12_init 666 = .ok (.newarray .char, 2) := by decide +kernel
theorem dX12_init_668 : decode cX12_init 668 = .ok (.dup, 1) := by decide +kernel
theorem dX12_init_669 : decode cX12_init 669 = .ok (.iconst 0, 1) := by decide +kernel
theorem dX12_init_670 : decode cX12_init 670 = .ok (.bipush 112, 2) := by decide +kernel
theorem dX12_init_672 : decode cX12_init 672 = .ok (.castore, 1) := by decide +kernel
theorem dX12_init_673 : decode cX12_init 673 = .ok (.dup, 1) := by decide +kernel
theorem dX12_init_674 : decode cX12_init 674 = .ok (.iconst 1, 1) := by decide +kernel
theorem dX12_init_675 : decode cX12_init 675 = .ok (.bipush 111, 2) := by decide +kernel
theorem dX12_init_677 : decode cX12_init 677 = .ok (.castore, 1) := by decide +kernel
theorem dX12_init_678 : decode cX12_init 678 = .ok (.dup, 1) := by decide +kernel
theorem dX12_init_679 : decode cX12_init 679 = .ok (.iconst 2, 1) := by decide +kernel
theorem dX12_init_680 : decode cX12_init 680 = .ok (.bipush 117, 2) := by decide +kernel
theorem dX12_init_682 : decode cX12_init 682 = .ok (.castore, 1) := by decide +kernel
theorem dX12_init_683 : decode cX12_init 683 = .ok (.dup, 1) := by decide +kernel
theorem dX12_init_684 : decode cX12_init 684 = .ok (.iconst 3, 1) := by decide +kernel
theorem dX12_init_685 : decode cX12_init 685 = .ok (.bipush 110, 2) := by decide +kernel
theorem dX12_init_687 : decode cX12_init 687 = .ok (.castore, 1) := by decide +kernel
theorem dX12_init_688 : decode cX12_init 688 = .ok (.dup, 1) := by decide +kernel
theorem dX12_init_689 : decode cX12_init 689 = .ok (.iconst 4, 1) := by decide +kernel
theorem dX12_init_690 : decode cX12_init 690 = .ok (.bipush 100, 2) := by decide +kernel
theorem dX12_init_692 : decode cX12_init 692 = .ok (.castore, 1) := by decide +kernel
theorem dX12_init_693 : decode cX12_init 693 = .ok (.dup, 1) := by decide +kernel
theorem dX12_init_694 : decode cX12_init 694 = .ok (.iconst 5, 1) := by decide +kernel
theorem dX12_init_695 : decode cX12_init 695 = .ok (.bipush 115, 2) := by decide +kernel
theorem dX12_init_697 : decode cX12_init 697 = .ok (.castore, 1) := by decide +kernel
theorem dX12_init_698 : decode cX12_init 698 = .ok (.putfield 112, 3) := by decide +kernel
theorem dX12_init_701 : decode cX12_init 701 = .ok (.aload_n 0, 1) := by decide +kernel
theorem dX12_init_702 : decode cX12_init 702 = .ok (.iconst 4, 1) := by decide +kernel
theorem dX12_init_703 : decode cX12_init 703 = .ok (.newarray .char, 2) := by decide +kernel
theorem dX12_init_705 : decode cX12_init 705 = .ok (.dup, 1) := by decide +kernel
theorem dX12_init_706 : decode cX12_init 706 = .ok (.iconst 0, 1) := by decide +kernel
theorem dX12_init_707 : decode cX12_init 707 = .ok (.bipush 116, 2) := by decide +kernel
theorem dX12_init_709 : decode cX12_init 709 = .ok (.castore, 1) := by decide +kernel
theorem dX12_init_710 : decode cX12_init 710 = .ok (.dup, 1) := by decide +kernel
theorem dX12_init_711 : decode cX12_init 711 = .ok (.iconst 1, 1) := by decide +kernel
theorem dX12_init_712 : decode cX12_init 712 = .ok (.bipush 101, 2) := by decide +kernel
theorem dX12_init_714 : decode cX12_init 714 = .ok (.castore, 1) := by decide +kernel
theorem dX12_init_715 : decode cX12_init 715 = .ok (.dup, 1) := by decide +kernel
theorem dX12_init_716 : decode cX12_init 716 = .ok (.iconst 2, 1) := by decide +kernel
theorem dX12_init_717 : decode cX12_init 717 = .ok (.bipush 114, 2) := by decide +kernel
theorem dX12_init_719 : decode cX12_init 719 = .ok (.castore, 1) := by decide +kernel
theorem dX12_init_720 : decode cX12_init 720 = .ok (.dup, 1) := by decide +kernel
theorem dX12_init_721 : decode cX12_init 721 = .ok (.iconst 3, 1) := by decide +kernel
theorem dX12_init_722 : decode cX12_init 722 = .ok (.bipush 109, 2) := by decide +kernel
theorem dX12_init_724 : decode cX12_init 724 = .ok (.castore, 1) := by decide +kernel
theorem dX12_init_725 : decode cX12_init 725 = .ok (.putfield 115, 3) := by decide +kernel
theorem dX12_init_728 : decode cX12_init 728 = .ok (.aload_n 0, 1) := by decide +kernel
theorem dX12_init_729 : decode cX12_init 729 = .ok (.iconst 4, 1) := by decide +kernel
theorem dX12_init_730 : decode cX12_init 730 = .ok (.newarray .char, 2) := by decide +kernel
theorem dX12_init_732 : decode cX12_init 732 = .ok (.dup, 1) := by decide +kernel
theorem dX12_init_733 : decode cX12_init 733 = .ok (.iconst 0, 1) := by decide +kernel
theorem dX12_init_734 : decode cX12_init 734 = .ok (.bipush 121, 2) := by decide +kernel
theorem dX12_init_736 : decode cX12_init 736 = .ok (.castore, 1) := by decide +kernel
theorem dX12_init_737 : decode cX12_init 737 = .ok (.dup, 1) := by decide +kernel
theorem dX12_init_738 : decode cX12_init 738 = .ok (.iconst 1, 1) := by decide +kernel
theorem dX12_init_739 : decode cX12_init 739 = .ok (.bipush 101, 2) := by decide +kernel
theorem dX12_init_741 : decode cX12_init 741 = .ok (.castore, 1) := by decide +kernel
theorem dX12_init_742 : decode cX12_init 742 = .ok (.dup, 1) := by decide +kernel
theorem dX12_init_743 : decode cX12_init 743 = .ok (.iconst 2, 1) := by decide +kernel
theorem dX12_init_744 : decode cX12_init 744 = .ok (.bipush 97, 2) := by decide +kernel
theorem dX12_init_746 : decode cX12_init 746 = .ok (.castore, 1) := by decide +kernel
theorem dX12_init_747 : decode cX12_init 747 = .ok (.dup, 1) := by decide +kernel
theorem dX12_init_748 : decode cX12_init 748 = .ok (.iconst 3, 1) := by decide +kernel
theorem dX12_init_749 : decode cX12_init 749 = .ok (.bipush 114, 2) := by decide +kernel
theorem dX12_init_751 : decode cX12_init 751 = .ok (.castore, 1) := by decide +kernel
theorem dX12_init_752 : decode cX12_init 752 = .ok (.putfield 118, 3) := by decide +kernel
theorem dX12_init_755 : decode cX12_init 755 = .ok (.aload_n 0, 1) := by decide +kernel
theorem dX12_init_756 : decode cX12_init 756 = .ok (.iconst 4, 1) := by decide +kernel
theorem dX12_init_757 : decode cX12_init 757 = .ok (.newarray .char, 2) := by decide +kernel
theorem dX12_init_759 : decode cX12_init 759 = .ok (.dup, 1) := by decide +kernel
theorem dX12_init_760 : decode cX12_init 760 = .ok (.iconst 0, 1) := by decide +kernel
theorem dX12_init_761 : decode cX12_init 761 = .ok (.bipush 100, 2) := by decide +kernel
theorem dX12_init_763 : decode cX12_init 763 = .ok (.castore, 1) := by decide +kernel
theorem dX12_init_764 : decode cX12_init 764 = .ok (.dup, 1) := by decide +kernel
theorem dX12_init_765 : decode cX12_init 765 = .ok (.iconst 1, 1) := by decide +kernel
theorem dX12_init_766 : decode cX12_init 766 = .ok (.bipush 101, 2) := by decide +kernel
theorem dX12_init_768 : decode cX12_init 768 = .ok (.castore, 1) := by decide +kernel
theorem dX12_init_769 : decode cX12_init 769 = .ok (.dup, 1) := by decide +kernel
theorem dX12_init_770 : decode cX12_init 770 = .ok (.iconst 2, 1) := by decide +kernel
theorem dX12_init_771 : decode cX12_init 771 = .ok (.bipush 98, 2) := by decide +kernel
theorem dX12_init_773 : decode cX12_init 773 = .ok (.castore, 1) := by decide +kernel
theorem dX12_init_774 : decode cX12_init 774 = .ok (.dup, 1) := by decide +kernel
theorem dX12_init_775 : decode cX12_init 775 = .ok (.iconst 3, 1) := by decide +kernel
theorem dX12_init_776 : decode cX12_init 776 = .ok (.bipush 116, 2) := by decide +kernel
theorem dX12_init_778 : decode cX12_init 778 = .ok (.castore, 1) := by decide +kernel
theorem dX12_init_779 : decode cX12_init 779 = .ok (.putfield 121, 3) := by decide +kernel
theorem dX12_init_782 : decode cX12_init 782 = .ok (.aload_n 0, 1) := by decide +kernel
theorem dX12_init_783 : decode cX12_init 783 = .ok (.iconst 4, 1) := by decide +kernel
theorem dX12_init_784 : decode cX12_init 784 = .ok (.newarray .char, 2) := by decide +kernel
theorem dX12_init_786 : decode cX12_init 786 = .ok (.dup, 1) := by decide +kernel
theorem dX12_init_787 : decode cX12_init 787 = .ok (.iconst 0, 1) := by decide +kernel
theorem dX12_init_788 : decode cX12_init 788 = .ok (.bipush 112, 2) := by decide +kernel
theorem dX12_init_790 : decode cX12_init 790 = .ok (.castore, 1) := by decide +kernel
theorem dX12_init_791 : decode cX12_init 791 = .ok (.dup, 1) := by decide +kernel
theorem dX12_init_792 : decode cX12_init 792 = .ok (.iconst 1, 1) := by decide +kernel
theorem dX12_init_793 : decode cX12_init 793 = .ok (.bipush 97, 2) := by decide +kernel
theorem dX12_init_795 : decode cX12_init 795 = .ok (.castore, 1) := by decide +kernel
theorem dX12_init_796 : decode cX12_init 796 = .ok (.dup, 1) := by decide +kernel
theorem dX12_init_797 : decode cX12_init 797 = .ok (.iconst 2, 1) := by decide +kernel
theorem dX12_init_798 : decode cX12_init 798 = .ok (.bipush 105, 2) := by decide +kernel
theorem dX12_init_800 : decode cX12_init 800 = .ok (.castore, 1) := by decide +kernel
theorem dX12_init_801 : decode cX12_init 801 = .ok (.dup, 1) := by decide +kernel
theorem dX12_init_802 : decode cX12_init 802 = .ok (.iconst 3, 1) := by decide +kernel
theorem dX12_init_803 : decode cX12_init 803 = .ok (.bipush 100, 2) := by decide +kernel
theorem dX12_init_805 : decode cX12_init 805 = .ok (.castore, 1) := by decide +kernel
theorem dX12_init_806 : decode cX12_init 806 = .ok (.putfield 124, 3) := by decide +kernel
theorem dX12_init_809 : decode cX12_init 809 = .ok (.aload_n 0, 1) := by decide +kernel
theorem dX12_init_810 : decode cX12_init 810 = .ok (.iconst 3, 1) := by decide +kernel
theorem dX12_init_811 : decode cX12_init 811 = .ok (.newarray .char, 2) := by decide +kernel
theorem dX12_init_813 : decode cX12_init 813 = .ok (.dup, 1) := by decide +kernel
theorem dX12_init_814 : decode cX12_init 814 = .ok (.iconst 0, 1) := by decide +kernel
theorem dX12_init_815 : decode cX12_init 815 = .ok (.bipush 109, 2) := by decide +kernel
theorem dX12_init_817 : decode cX12_init 817 = .ok (.castore, 1) := by decide +kernel
theorem dX12_init_818 : decode cX12_init 818 = .ok (.dup, 1) := by decide +kernel
theorem dX12_init_819 : decode cX12_init 819 = .ok (.iconst 1, 1) := by decide +kernel
theorem dX12_init_820 : decode cX12_init 820 = .ok (.bipush 105, 2) := by decide +kernel
theorem dX12_init_822 : decode cX12_init 822 = .ok (.castore, 1) := by decide +kernel
theorem dX12_init_823 : decode cX12_init 823 = .ok (.dup, 1) := by decide +kernel
theorem dX12_init_824 : decode cX12_init 824 = .ok (.iconst 2, 1) := by decide +kernel
theorem dX12_init_825 : decode cX12_init 825 = .ok (.bipush 110, 2) := by decide +kernel
theorem dX12_init_827 : decode cX12_init 827 = .ok (.castore, 1) := by decide +kernel
theorem dX12_init_828 : decode cX12_init 828 = .ok (.putfield 127, 3) := by decide +kernel
theorem dX12_init_831 : decode cX12_init 831 = .ok (.aload_n 0, 1) := by decide +kernel
theorem dX12_init_832 : decode cX12_init 832 = .ok (.iconst 3, 1) := by decide +kernel
theorem dX12_init_833 : decode cX12_init 833 = .ok (.newarray .char, 2) := by decide +kernel
theorem dX12_init_835 : decode cX12_init 835 = .ok (.dup, 1) := by decide +kernel
theorem dX12_init_836 : decode cX12_init 836 = .ok (.iconst 0, 1) := by decide +kernel
theorem dX12_init_837 : decode cX12_init 837 = .ok (.bipush 109, 2) := by decide +kernel
theorem dX12_init_839 : decode cX12_init 839 = .ok (.castore, 1) := by decide +kernel
theorem dX12_init_840 : decode cX12_init 840 = .ok (.dup, 1) := by decide +kernel
theorem dX12_init_841 : decode cX12_init 841 = .ok (.iconst 1, 1) := by decide +kernel
theorem dX12_init_842 : decode cX12_init 842 = .ok (.bipush 97, 2) := by decide +kernel
theorem dX12_init_844 : decode cX12_init 844 = .ok (.castore, 1) := by decide +kernel
theorem dX12_init_845 : decode cX12_init 845 = .ok (.dup, 1) := by decide +kernel
theorem dX12_init_846 : decode cX12_init 846 = .ok (.iconst 2, 1) := by decide +kernel
theorem dX12_init_847 : decode cX12_init 847 = .ok (.bipush 120, 2) := by decide +kernel
theorem dX12_init_849 : decode cX12_init 849 = .ok (.castore, 1) := by decide +kernel
theorem dX12_init_850 : decode cX12_init 850 = .ok (.putfield 130, 3) := by decide +kernel
theorem dX12_init_853 : decode cX12_init 853 = .ok (.aload_n 0, 1) := by decide +kernel
theorem dX12_init_854 : decode cX12_init 854 = .ok (.sipush 201, 3) := by decide +kernel
theorem dX12_init_857 : decode cX12_init 857 = .ok (.newarray .int, 2) := by decide +kernel
theorem dX12_init_859 : decode cX12_init 859 = .ok (.putfield 133, 3) := by decide +kernel
theorem dX12_init_862 : decode cX12_init 862 = .ok (.aload_n 0, 1) := by decide +kernel
theorem dX12_init_863 : decode cX12_init 863 = .ok (.sipush 4824, 3) := by decide +kernel
theorem dX12_init_866 : decode cX12_init 866 = .ok (.newarray .int, 2) := by decide +kernel
theorem dX12_init_868 : decode cX12_init 868 = .ok (.putfield 136, 3) := by decide +kernel
theorem dX12_init_871 : decode cX12_init 871 = .ok (.aload_n 0, 1) := by decide +kernel
theorem dX12_init_872 : decode cX12_init 872 = .ok (.sipush 4824, 3) := by decide +kernel
theorem dX12_init_875 : decode cX12_init 875 = .ok (.newarray .boolean, 2) := by decide +kernel
theorem dX12_init_877 : decode cX12_init 877 = .ok (.putfield 139, 3) := by decide +kernel
theorem dX12_init_880 : decode cX12_init 880 = .ok (.aload_n 0, 1) := by decide +kernel
theorem dX12_init_881 : decode cX12_init 881 = .ok (.sipush 4824, 3) := by decide +kernel
theorem dX12_init_884 : decode cX12_init 884 = .ok (.newarray .int, 2) := by decide +kernel
theorem dX12_init_886 : decode cX12_init 886 = .ok (.putfield 143, 3) := by decide +kernel
theorem dX12_init_889 : decode cX12_init 889 = .ok (.aload_n 0, 1) := by decide +kernel
theorem dX12_init_890 : decode cX12_init 890 = .ok (.sipush 4824, 3) := by decide +kernel
theorem dX12_init_893 : decode cX12_init 893 = .ok (.newarray .int, 2) := by decide +kernel
theorem dX12_init_895 : decode cX12_init 895 = .ok (.putfield 146, 3) := by decide +kernel
theorem dX12_init_898 : decode cX12_init 898 = .ok (.aload_n 0, 1) := by decide +kernel
theorem dX12_init_899 : decode cX12_init 899 = .ok (.sipush 4824, 3) := by decide +kernel
theorem dX12_init_902 : decode cX12_init 902 = .ok (.newarray .int, 2) := by decide +kernel
theorem dX12_init_904 : decode cX12_init 904 = .ok (.putfield 149, 3) := by decide +kernel
theorem dX12_init_907 : decode cX12_init 907 = .ok (.aload_n 0, 1) := by decide +kernel
theorem dX12_init_908 : decode cX12_init 908 = .ok (.sipush 4824, 3) := by decide +kernel
theorem dX12_init_911 : decode cX12_init 911 = .ok (.newarray .int, 2) := by decide +kernel
theorem dX12_init_913 : decode cX12_init 913 = .ok (.putfield 152, 3) := by decide +kernel
theorem dX12_init_916 : decode cX12_init 916 = .ok (.aload_n 0, 1) := by decide +kernel
theorem dX12_init_917 : decode cX12_init 917 = .ok (.sipush 4824, 3) := by decide +kernel
theorem dX12_init_920 : decode cX12_init 920 = .ok (.newarray .int, 2) := by decide +kernel
theorem dX12_init_922 : decode cX12_init 922 = .ok (.putfield 155, 3) := by decide +kernel
theorem dX12_init_925 : decode cX12_init 925 = .ok (.aload_n 0, 1) := by decide +kernel
theorem dX12_init_926 : decode cX12_init 926 = .ok (.ldc 158, 2) := by decide +kernel
theorem dX12_init_928 : decode cX12_init 928 = .ok (.newarray .int, 2) := by decide +kernel
theorem dX12_init_930 : decode cX12_init 930 = .ok (.putfield 159, 3) := by decide +kernel
theorem dX12_init_933 : decode cX12_init 933 = .ok (.aload_n 0, 1) := by decide +kernel
theorem dX12_init_934 : decode cX12_init 934 = .ok (.sipush 700, 3) := by decide +kernel
theorem dX12_init_937 : decode cX12_init 937 = .ok (.newarray .int, 2) := by decide +kernel
theorem dX12_init_939 : decode cX12_init 939 = .ok (.putfield 162, 3) := by decide +kernel
theorem dX12_init_942 : decode cX12_init 942 = .ok (.aload_n 0, 1) := by decide +kernel
theorem dX12_init_943 : decode cX12_init 943 = .ok (.sipush 700, 3) := by decide +kernel
theorem dX12_init_946 : decode cX12_init 946 = .ok (.newarray .long, 2) := by decide +kernel
theorem dX12_init_948 : decode cX12_init 948 = .ok (.putfield 165, 3) := by decide +kernel
theorem dX12_init_951 : decode cX12_init 951 = .ok (.aload_n 0, 1) := by decide +kernel
theorem dX12_init_952 : decode cX12_init 952 = .ok (.sipush 201, 3) := by decide +kernel
theorem dX12_init_955 : decode cX12_init 955 = .ok (.newarray .int, 2) := by decide +kernel
theorem dX12_init_957 : decode cX12_init 957 = .ok (.putfield 169, 3) := by decide +kernel
theorem dX12_init_960 : decode cX12_init 960 = .ok (.aload_n 0, 1) := by decide +kernel
theorem dX12_init_961 : decode cX12_init 961 = .ok (.sipush 201, 3) := by decide +kernel
theorem dX12_init_964 : decode cX12_init 964 = .ok (.newarray .int, 2) := by decide +kernel
theorem dX12_init_966 : decode cX12_init 966 = .ok (.putfield 172, 3) := by decide +kernel
theorem dX12_init_969 : decode cX12_init 969 = .ok (.aload_n 0, 1) := by decide +kernel
theorem dX12_init_970 : decode cX12_init 970 = .ok (.sipush 201, 3) := by decide +kernel
theorem dX12_init_973 : decode cX12_init 973 = .ok (.newarray .int, 2) := by decide +kernel
theorem dX12_init_975 : decode cX12_init 975 = .ok (.putfield 175, 3) := by decide +kernel
theorem dX12_init_978 : decode cX12_init 978 = .ok (.aload_n 0, 1) := by decide +kernel
theorem dX12_init_979 : decode cX12_init 979 = .ok (.sipush 201, 3) := by decide +kernel
theorem dX12_init_982 : decode cX12_init 982 = .ok (.newarray .int, 2) := by decide +kernel
theorem dX12_init_984 : decode cX12_init 984 = .ok (.putfield 178, 3) := by decide +kernel
theorem dX12_init_987 : decode cX12_init 987 = .ok (.aload_n 0, 1) := by decide +kernel
theorem dX12_init_988 : decode cX12_init 988 = .ok (.sipush 201, 3) := by decide +kernel
theorem dX12_init_991 : decode cX12_init 991 = .ok (.newarray .int, 2) := by decide +kernel
theorem dX12_init_993 : decode cX12_init 993 = .ok (.putfield 181, 3) := by decide +kernel
theorem dX12_init_996 : decode cX12_init 996 = .ok (.aload_n 0, 1) := by decide +kernel
theorem dX12_init_997 : decode cX12_init 997 = .ok (.iconst (-1), 1) := by decide +kernel
theorem dX12_init_998 : decode cX12_init 998 = .ok (.putfield 184, 3) := by decide +kernel
theorem dX12_init_1001 : decode cX12_init 1001 = .ok (.aload_n 0, 1) := by decide +kernel
theorem dX12_init_1002 : decode cX12_init 1002 = .ok (.bipush 60, 2) := by decide +kernel
theorem dX12_init_1004 : decode cX12_init 1004 = .ok (.newarray .long, 2) := by decide +kernel
theorem dX12_init_1006 : decode cX12_init 1006 = .ok (.putfield 187, 3) := by decide +kernel
theorem dX12_init_1009 : decode cX12_init 1009 = .ok (.aload_n 0, 1) := by decide +kernel
theorem dX12_init_1010 : decode cX12_init 1010 = .ok (.iconst (-1), 1) := by decide +kernel
theorem dX12_init_1011 : decode cX12_init 1011 = .ok (.putfield 190, 3) := by decide +kernel
theorem dX12_init_1014 : decode cX12_init 1014 = .ok (.return_, 1) := by decide +kernel
theorem ce_Model {l : Launch} {X : zX} {e : Nat → va_E} (he : e 128 = .inr (12, [.null, .null, .null, .null, .null, .null, .null, .null, .null, .null, .int 0, .int 0, .int 0, .null, .null, .null, .null, .null, .int 0, .int 0, .int 0, .int 0, .int 0, .int 0, .int 0, .int 0, .null, .null, .null, .null, .null, .null, .null, .null, .null, .null, .null, .null, .null, .null, .null, .null, .null, .null, .null, .null, .null, .null, .null, .null, .null, .null, .null, .null, .null, .null, .int 0, .null, .int 0, .int 0, .int 0, .null, .int 0, .long 0, .long 0, .int 0, .int 0, .int 0, .null, .null, .null, .null, .null, .int 0, .int 0, .int 0, .int 0, .int 0, .null, .long 0, .long 0, .long 0, .long 0, .int 0, .int 0])) : zMve l yX12_init cX12_init 1 none ({ frames := 1, cells := 53, slots := 179067, locals := 20 } : Room) X [.ref (X.1 + 128)] (129, e) (182, (va_up (va_up (va_up (va_up (va_up (va_up (va_up (va_up (va_up (va_up (va_up (va_up (va_up (va_up (va_up (va_up (va_up (va_up (va_up (va_up (va_up (va_up (va_up (va_up (va_up (va_up (va_up (va_up (va_up (va_up (va_up (va_up (va_up (va_up (va_up (va_up (va_up (va_up (va_up (va_up (va_up (va_up (va_up (va_up (va_up (va_up (va_up (va_up (va_up (va_up (va_up (va_up (va_up (va_up e 129 (.inl (X.2.2.1 0, 12, .inl (upd (upd (upd (upd (upd (upd (upd (upd (upd (upd (upd (upd (fun _ => 0) 0 6) 1 2) 2 10) 3 2) 4 10) 5 2) 6 5) 7 5) 8 2) 9 5) 10 2) 11 5)))) 130 (.inl (X.2.2.1 0, 13, .inl (fun _ => 0)))) 131 (.inl (X.2.2.1 0, 13, .inl (fun _ => 0)))) 132 (.inl (X.2.2.1 0, 13, .inl (fun _ => 0)))) 133 (.inl (X.2.2.1 0, 601, .inl (fun _ => 0)))) 134 (.inl (X.2.2.1 0, 601, .inl (fun _ => 0)))) 135 (.inl (X.2.2.1 0, 20, .inl (fun _ => 0)))) 136 (.inl (X.2.2.1 0, 240, .inl (fun _ => 0)))) 137 (.inl (X.2.2.1 0, 240, .inl (fun _ => 0)))) 138 (.inl (X.2.2.1 0, 6, .inl (upd (upd (upd (upd (upd (upd (fun _ => 0) 0 1) 1 12) 2 240) 3 4800) 4 24000) 5 240000)))) 139 (.inl (X.2.2.1 0, 169, .inl (fun _ => 0)))) 140 (.inl (X.2.2.1 0, 11264, .inl (fun _ => 0)))) 141 (.inl (X.2.2.1 0, 10, .inl (fun _ => 0)))) 142 (.inl (X.2.2.1 0, 100, .inl (fun _ => 0)))) 143 (.inl (X.2.2.1 0, 600, .inl (fun _ => 0)))) 144 (.inl (X.2.2.1 2, 4, .inl (upd (upd (upd (upd (fun _ => 0) 0 102) 1 97) 2 114) 3 109)))) 145 (.inl (X.2.2.1 2, 8, .inl (upd (upd (upd (upd (upd (upd (upd (upd (fun _ => 0) 0 98) 1 108) 2 97) 3 110) 4 99) 5 104) 6 101) 7 100)))) 146 (.inl (X.2.2.1 2, 5, .inl (upd (upd (upd (upd (upd (fun _ => 0) 0 97) 1 108) 2 108) 3 111) 4 119)))) 147 (.inl (X.2.2.1 2, 6, .inl (upd (upd (upd (upd (upd (upd (fun _ => 0) 0 112) 1 97) 2 114) 3 100) 4 111) 5 110)))) 148 (.inl (X.2.2.1 2, 5, .inl (upd (upd (upd (upd (upd (fun _ => 0) 0 115) 1 112) 2 108) 3 105) 4 116)))) 149 (.inl (X.2.2.1 2, 2, .inl (upd (upd (fun _ => 0) 0 105) 1 110)))) 150 (.inl (X.2.2.1 2, 3, .inl (upd (upd (upd (fun _ => 0) 0 102) 1 111) 2 114)))) 151 (.inl (X.2.2.1 2, 2, .inl (upd (upd (fun _ => 0) 0 111) 1 114)))) 152 (.inl (X.2.2.1 2, 3, .inl (upd (upd (upd (fun _ => 0) 0 97) 1 110) 2 100)))) 153 (.inl (X.2.2.1 2, 3, .inl (upd (upd (upd (fun _ => 0) 0 110) 1 111) 2 116)))) 154 (.inl (X.2.2.1 2, 3, .inl (upd (upd (upd (fun _ => 0) 0 97) 1 108) 2 108)))) 155 (.inl (X.2.2.1 2, 5, .inl (upd (upd (upd (upd (upd (fun _ => 0) 0 115) 1 104) 2 105) 3 114) 4 101)))) 156 (.inl (X.2.2.1 2, 5, .inl (upd (upd (upd (upd (upd (fun _ => 0) 0 112) 1 101) 2 110) 3 99) 4 101)))) 157 (.inl (X.2.2.1 2, 9, .inl (upd (upd (upd (upd (upd (upd (upd (upd (upd (fun _ => 0) 0 115) 1 104) 2 105) 3 108) 4 108) 5 105) 6 110) 7 103) 8 115)))) 158 (.inl (X.2.2.1 2, 6, .inl (upd (upd (upd (upd (upd (upd (fun _ => 0) 0 112) 1 111) 2 117) 3 110) 4 100) 5 115)))) 159 (.inl (X.2.2.1 2, 4, .inl (upd (upd (upd (upd (fun _ => 0) 0 116) 1 101) 2 114) 3 109)))) 160 (.inl (X.2.2.1 2, 4, .inl (upd (upd (upd (upd (fun _ => 0) 0 121) 1 101) 2 97) 3 114)))) 161 (.inl (X.2.2.1 2, 4, .inl (upd (upd (upd (upd (fun _ => 0) 0 100) 1 101) 2 98) 3 116)))) 162 (.inl (X.2.2.1 2, 4, .inl (upd (upd (upd (upd (fun _ => 0) 0 112) 1 97) 2 105) 3 100)))) 163 (.inl (X.2.2.1 2, 3, .inl (upd (upd (upd (fun _ => 0) 0 109) 1 105) 2 110)))) 164 (.inl (X.2.2.1 2, 3, .inl (upd (upd (upd (fun _ => 0) 0 109) 1 97) 2 120)))) 165 (.inl (X.2.2.1 0, 201, .inl (fun _ => 0)))) 166 (.inl (X.2.2.1 0, 4824, .inl (fun _ => 0)))) 167 (.inl (X.2.2.1 3, 4824, .inl (fun _ => 0)))) 168 (.inl (X.2.2.1 0, 4824, .inl (fun _ => 0)))) 169 (.inl (X.2.2.1 0, 4824, .inl (fun _ => 0)))) 170 (.inl (X.2.2.1 0, 4824, .inl (fun _ => 0)))) 171 (.inl (X.2.2.1 0, 4824, .inl (fun _ => 0)))) 172 (.inl (X.2.2.1 0, 4824, .inl (fun _ => 0)))) 173 (.inl (X.2.2.1 0, 128640, .inl (fun _ => 0)))) 174 (.inl (X.2.2.1 0, 700, .inl (fun _ => 0)))) 175 (.inl (X.2.2.1 1, 700, .inr (.inl (fun _ => 0))))) 176 (.inl (X.2.2.1 0, 201, .inl (fun _ => 0)))) 177 (.inl (X.2.2.1 0, 201, .inl (fun _ => 0)))) 178 (.inl (X.2.2.1 0, 201, .inl (fun _ => 0)))) 179 (.inl (X.2.2.1 0, 201, .inl (fun _ => 0)))) 180 (.inl (X.2.2.1 0, 201, .inl (fun _ => 0)))) 181 (.inl (X.2.2.1 1, 60, .inr (.inl (fun _ => 0))))) 128 (.inr (12, [.ref (X.1 + 129), .ref (X.1 + 130), .ref (X.1 + 131), .ref (X.1 + 132), .ref (X.1 + 133), .ref (X.1 + 134), .ref (X.1 + 135), .ref (X.1 + 136), .ref (X.1 + 137), .ref (X.1 + 138), .int 3, .int 8, .int 20, .ref (X.1 + 139), .ref (X.1 + 140), .ref (X.1 + 141), .ref (X.1 + 142), .ref (X.1 + 143), .int 0, .int 0, .int 0, .int 0, .int 0, .int 0, .int 0, .int (-1), .ref (X.1 + 144), .ref (X.1 + 145), .ref (X.1 + 146), .ref (X.1 + 147), .ref (X.1 + 148), .ref (X.1 + 149), .ref (X.1 + 150), .ref (X.1 + 151), .ref (X.1 + 152), .ref (X.1 + 153), .ref (X.1 + 154), .ref (X.1 + 155), .ref (X.1 + 156), .ref (X.1 + 157), .ref (X.1 + 158), .ref (X.1 + 159), .ref (X.1 + 160), .ref (X.1 + 161), .ref (X.1 + 162), .ref (X.1 + 163), .ref (X.1 + 164), .ref (X.1 + 165), .ref (X.1 + 166), .ref (X.1 + 167), .ref (X.1 + 168), .ref (X.1 + 169), .ref (X.1 + 170), .ref (X.1 + 171), .ref (X.1 + 172), .ref (X.1 + 173), .int 0, .ref (X.1 + 174), .int 0, .int 0, .int 0, .ref (X.1 + 175), .int 0, .long 0, .long 0, .int 0, .int 0, .int 0, .ref (X.1 + 176), .ref (X.1 + 177), .ref (X.1 + 178), .ref (X.1 + 179), .ref (X.1 + 180), .int (-1), .int 0, .int 0, .int 0, .int 0, .ref (X.1 + 181), .long 0, .long 0, .long 0, .long 0, .int 0, .int (-1)])))) := by
  refine zMve.ofI (by decide) (Nat.le_of_ble_eq_true rfl) (fun C E hl hX hQ hin => ?_)
  subst hl
  subst hX
  refine ze_aload_n E dX12_init_0 0 rfl rfl ?_
  refine ze_objinit E zw_1165 (by first | decide | simp [Value.category]) (by decide) dX12_init_1 ?_
  refine ze_aload_n E dX12_init_4 0 rfl rfl ?_
  refine ze_bipush E dX12_init_5 (v := 12) rfl ?_
  refine ze_newaI E (by decide) (N := 12) rfl (by decide) zw_45 ⟨by decide, by decide⟩ (c2 := (1, 12)) rfl (n2 := 130) rfl dX12_init_7 ?_
  refine ze_dup E dX12_init_9 rfl ?_
  refine ze_iconst E dX12_init_10 (v := 0) rfl ?_
  refine ze_bipush E dX12_init_11 (v := 6) rfl ?_
  refine ze_iast E 129 (by decide) rfl (by unfold vp_in; decide) (j := 0) rfl (x2 := 6) rfl rfl dX12_init_13 ?_
  refine ze_dup E dX12_init_14 rfl ?_
  refine ze_iconst E dX12_init_15 (v := 1) rfl ?_
  refine ze_iconst E dX12_init_16 (v := 2) rfl ?_
  refine ze_iast E 129 (by decide) rfl (by unfold vp_in; decide) (j := 1) rfl (x2 := 2) rfl rfl dX12_init_17 ?_
  refine ze_dup E dX12_init_18 rfl ?_
  refine ze_iconst E dX12_init_19 (v := 2) rfl ?_
  refine ze_bipush E dX12_init_20 (v := 10) rfl ?_
  refine ze_iast E 129 (by decide) rfl (by unfold vp_in; decide) (j := 2) rfl (x2 := 10) rfl rfl dX12_init_22 ?_
  refine ze_dup E dX12_init_23 rfl ?_
  refine ze_iconst E dX12_init_24 (v := 3) rfl ?_
  refine ze_iconst E dX12_init_25 (v := 2) rfl ?_
  refine ze_iast E 129 (by decide) rfl (by unfold vp_in; decide) (j := 3) rfl (x2 := 2) rfl rfl dX12_init_26 ?_
  refine ze_dup E dX12_init_27 rfl ?_
  refine ze_iconst E dX12_init_28 (v := 4) rfl ?_
  refine ze_bipush E dX12_init_29 (v := 10) rfl ?_
  refine ze_iast E 129 (by decide) rfl (by unfold vp_in; decide) (j := 4) rfl (x2 := 10) rfl rfl dX12_init_31 ?_
  refine ze_dup E dX12_init_32 rfl ?_
  refine ze_iconst E dX12_init_33 (v := 5) rfl ?_
  refine ze_iconst E dX12_init_34 (v := 2) rfl ?_
  refine ze_iast E 129 (by decide) rfl (by unfold vp_in; decide) (j := 5) rfl (x2 := 2) rfl rfl dX12_init_35 ?_
  refine ze_dup E dX12_init_36 rfl ?_
  refine ze_bipush E dX12_init_37 (v := 6) rfl ?_
  refine ze_iconst E dX12_init_39 (v := 5) rfl ?_
  refine ze_iast E 129 (by decide) rfl (by unfold vp_in; decide) (j := 6) rfl (x2 := 5) rfl rfl dX12_init_40 ?_
  refine ze_dup E dX12_init_41 rfl ?_
  refine ze_bipush E dX12_init_42 (v := 7) rfl ?_
  refine ze_iconst E dX12_init_44 (v := 5) rfl ?_
  refine ze_iast E 129 (by decide) rfl (by unfold vp_in; decide) (j := 7) rfl (x2 := 5) rfl rfl dX12_init_45 ?_
  refine ze_dup E dX12_init_46 rfl ?_
  refine ze_bipush E dX12_init_47 (v := 8) rfl ?_
  refine ze_iconst E dX12_init_49 (v := 2) rfl ?_
  refine ze_iast E 129 (by decide) rfl (by unfold vp_in; decide) (j := 8) rfl (x2 := 2) rfl rfl dX12_init_50 ?_
  refine ze_dup E dX12_init_51 rfl ?_
  refine ze_bipush E dX12_init_52 (v := 9) rfl ?_
  refine ze_iconst E dX12_init_54 (v := 5) rfl ?_
  refine ze_iast E 129 (by decide) rfl (by unfold vp_in; decide) (j := 9) rfl (x2 := 5) rfl rfl dX12_init_55 ?_
  refine ze_dup E dX12_init_56 rfl ?_
  refine ze_bipush E dX12_init_57 (v := 10) rfl ?_
  refine ze_iconst E dX12_init_59 (v := 2) rfl ?_
  refine ze_iast E 129 (by decide) rfl (by unfold vp_in; decide) (j := 10) rfl (x2 := 2) rfl rfl dX12_init_60 ?_
  refine ze_dup E dX12_init_61 rfl ?_
  refine ze_bipush E dX12_init_62 (v := 11) rfl ?_
  refine ze_iconst E dX12_init_64 (v := 5) rfl ?_
  refine ze_iast E 129 (by decide) rfl (by unfold vp_in; decide) (j := 11) rfl (x2 := 5) rfl rfl dX12_init_65 ?_
  refine ze_putF E 128 (by decide) (by rw [zup_n (by decide)]; exact he) rfl zin12 0 (by decide) zw_1168 tyX12 tyX12_ok nmX12 rfl hin rfl rfl rfl (Nat.le_of_ble_eq_true rfl) (fs2 := [.ref (C.X.1 + 129), .null, .null, .null, .null, .null, .null, .null, .null, .null, .int 0, .int 0, .int 0, .null, .null, .null, .null, .null, .int 0, .int 0, .int 0, .int 0, .int 0, .int 0, .int 0, .int 0, .null, .null, .null, .null, .null, .null, .null, .null, .null, .null, .null, .null, .null, .null, .null, .null, .null, .null, .null, .null, .null, .null, .null, .null, .null, .null, .null, .null, .null, .null, .int 0, .null, .int 0, .int 0, .int 0, .null, .int 0, .long 0, .long 0, .int 0, .int 0, .int 0, .null, .null, .null, .null, .null, .int 0, .int 0, .int 0, .int 0, .int 0, .null, .long 0, .long 0, .long 0, .long 0, .int 0, .int 0]) rfl rfl dX12_init_66 ?_
  refine ze_aload_n E dX12_init_69 0 rfl rfl ?_
  refine ze_bipush E dX12_init_70 (v := 13) rfl ?_
  refine ze_newaI E (by decide) (N := 13) rfl (by decide) zw_45 ⟨by decide, by decide⟩ (c2 := (2, 25)) rfl (n2 := 131) rfl dX12_init_72 ?_
  refine ze_putF E 128 (by decide) rfl rfl zin12 1 (by decide) zw_1169 tyX12 tyX12_ok nmX12 rfl hin rfl rfl rfl (Nat.le_of_ble_eq_true rfl) (fs2 := [.ref (C.X.1 + 129), .ref (C.X.1 + 130), .null, .null, .null, .null, .null, .null, .null, .null, .int 0, .int 0, .int 0, .null, .null, .null, .null, .null, .int 0, .int 0, .int 0, .int 0, .int 0, .int 0, .int 0, .int 0, .null, .null, .null, .null, .null, .null, .null, .null, .null, .null, .null, .null, .null, .null, .null, .null, .null, .null, .null, .null, .null, .null, .null, .null, .null, .null, .null, .null, .null, .null, .int 0, .null, .int 0, .int 0, .int 0, .null, .int 0, .long 0, .long 0, .int 0, .int 0, .int 0, .null, .null, .null, .null, .null, .int 0, .int 0, .int 0, .int 0, .int 0, .null, .long 0, .long 0, .long 0, .long 0, .int 0, .int 0]) rfl rfl dX12_init_74 ?_
  refine ze_aload_n E dX12_init_77 0 rfl rfl ?_
  refine ze_bipush E dX12_init_78 (v := 13) rfl ?_
  refine ze_newaI E (by decide) (N := 13) rfl (by decide) zw_45 ⟨by decide, by decide⟩ (c2 := (3, 38)) rfl (n2 := 132) rfl dX12_init_80 ?_
  refine ze_putF E 128 (by decide) rfl rfl zin12 2 (by decide) zw_1170 tyX12 tyX12_ok nmX12 rfl hin rfl rfl rfl (Nat.le_of_ble_eq_true rfl) (fs2 := [.ref (C.X.1 + 129), .ref (C.X.1 + 130), .ref (C.X.1 + 131), .null, .null, .null, .null, .null, .null, .null, .int 0, .int 0, .int 0, .null, .null, .null, .null, .null, .int 0, .int 0, .int 0, .int 0, .int 0, .int 0, .int 0, .int 0, .null, .null, .null, .null, .null, .null, .null, .null, .null, .null, .null, .null, .null, .null, .null, .null, .null, .null, .null, .null, .null, .null, .null, .null, .null, .null, .null, .null, .null, .null, .int 0, .null, .int 0, .int 0, .int 0, .null, .int 0, .long 0, .long 0, .int 0, .int 0, .int 0, .null, .null, .null, .null, .null, .int 0, .int 0, .int 0, .int 0, .int 0, .null, .long 0, .long 0, .long 0, .long 0, .int 0, .int 0]) rfl rfl dX12_init_82 ?_
  refine ze_aload_n E dX12_init_85 0 rfl rfl ?_
  refine ze_bipush E dX12_init_86 (v := 13) rfl ?_
  refine ze_newaI E (by decide) (N := 13) rfl (by decide) zw_45 ⟨by decide, by decide⟩ (c2 := (4, 51)) rfl (n2 := 133) rfl dX12_init_88 ?_
  refine ze_putF E 128 (by decide) rfl rfl zin12 3 (by decide) zw_1171 tyX12 tyX12_ok nmX12 rfl hin rfl rfl rfl (Nat.le_of_ble_eq_true rfl) (fs2 := [.ref (C.X.1 + 129), .ref (C.X.1 + 130), .ref (C.X.1 + 131), .ref (C.X.1 + 132), .null, .null, .null, .null, .null, .null, .int 0, .int 0, .int 0, .null, .null, .null, .null, .null, .int 0, .int 0, .int 0, .int 0, .int 0, .int 0, .int 0, .int 0, .null, .null, .null, .null, .null, .null, .null, .null, .null, .null, .null, .null, .null, .null, .null, .null, .null, .null, .null, .null, .null, .null, .null, .null, .null, .null, .null, .null, .null, .null, .int 0, .null, .int 0, .int 0, .int 0, .null, .int 0, .long 0, .long 0, .int 0, .int 0, .int 0, .null, .null, .null, .null, .null, .int 0, .int 0, .int 0, .int 0, .int 0, .null, .long 0, .long 0, .long 0, .long 0, .int 0, .int 0]) rfl rfl dX12_init_90 ?_
  refine ze_aload_n E dX12_init_93 0 rfl rfl ?_
  refine ze_sipush E dX12_init_94 (v := 601) rfl ?_
  refine ze_newaI E (by decide) (N := 601) rfl (by decide) zw_45 ⟨by decide, by decide⟩ (c2 := (5, 652)) rfl (n2 := 134) rfl dX12_init_97 ?_
  refine ze_putF E 128 (by decide) rfl rfl zin12 4 (by decide) zw_1172 tyX12 tyX12_ok nmX12 rfl hin rfl rfl rfl (Nat.le_of_ble_eq_true rfl) (fs2 := [.ref (C.X.1 + 129), .ref (C.X.1 + 130), .ref (C.X.1 + 131), .ref (C.X.1 + 132), .ref (C.X.1 + 133), .null, .null, .null, .null, .null, .int 0, .int 0, .int 0, .null, .null, .null, .null, .null, .int 0, .int 0, .int 0, .int 0, .int 0, .int 0, .int 0, .int 0, .null, .null, .null, .null, .null, .null, .null, .null, .null, .null, .null, .null, .null, .null, .null, .null, .null, .null, .null, .null, .null, .null, .null, .null, .null, .null, .null, .null, .null, .null, .int 0, .null, .int 0, .int 0, .int 0, .null, .int 0, .long 0, .long 0, .int 0, .int 0, .int 0, .null, .null, .null, .null, .null, .int 0, .int 0, .int 0, .int 0, .int 0, .null, .long 0, .long 0, .long 0, .long 0, .int 0, .int 0]) rfl rfl dX12_init_99 ?_
  refine ze_aload_n E dX12_init_102 0 rfl rfl ?_
  refine ze_sipush E dX12_init_103 (v := 601) rfl ?_
  refine ze_newaI E (by decide) (N := 601) rfl (by decide) zw_45 ⟨by decide, by decide⟩ (c2 := (6, 1253)) rfl (n2 := 135) rfl dX12_init_106 ?_
  refine ze_putF E 128 (by decide) rfl rfl zin12 5 (by decide) zw_1173 tyX12 tyX12_ok nmX12 rfl hin rfl rfl rfl (Nat.le_of_ble_eq_true rfl) (fs2 := [.ref (C.X.1 + 129), .ref (C.X.1 + 130), .ref (C.X.1 + 131), .ref (C.X.1 + 132), .ref (C.X.1 + 133), .ref (C.X.1 + 134), .null, .null, .null, .null, .int 0, .int 0, .int 0, .null, .null, .null, .null, .null, .int 0, .int 0, .int 0, .int 0, .int 0, .int 0, .int 0, .int 0, .null, .null, .null, .null, .null, .null, .null, .null, .null, .null, .null, .null, .null, .null, .null, .null, .null, .null, .null, .null, .null, .null, .null, .null, .null, .null, .null, .null, .null, .null, .int 0, .null, .int 0, .int 0, .int 0, .null, .int 0, .long 0, .long 0, .int 0, .int 0, .int 0, .null, .null, .null, .null, .null, .int 0, .int 0, .int 0, .int 0, .int 0, .null, .long 0, .long 0, .long 0, .long 0, .int 0, .int 0]) rfl rfl dX12_init_108 ?_
  refine ze_aload_n E dX12_init_111 0 rfl rfl ?_
  refine ze_bipush E dX12_init_112 (v := 20) rfl ?_
  refine ze_newaI E (by decide) (N := 20) rfl (by decide) zw_45 ⟨by decide, by decide⟩ (c2 := (7, 1273)) rfl (n2 := 136) rfl dX12_init_114 ?_
  refine ze_putF E 128 (by decide) rfl rfl zin12 6 (by decide) zw_1174 tyX12 tyX12_ok nmX12 rfl hin rfl rfl rfl (Nat.le_of_ble_eq_true rfl) (fs2 := [.ref (C.X.1 + 129), .ref (C.X.1 + 130), .ref (C.X.1 + 131), .ref (C.X.1 + 132), .ref (C.X.1 + 133), .ref (C.X.1 + 134), .ref (C.X.1 + 135), .null, .null, .null, .int 0, .int 0, .int 0, .null, .null, .null, .null, .null, .int 0, .int 0, .int 0, .int 0, .int 0, .int 0, .int 0, .int 0, .null, .null, .null, .null, .null, .null, .null, .null, .null, .null, .null, .null, .null, .null, .null, .null, .null, .null, .null, .null, .null, .null, .null, .null, .null, .null, .null, .null, .null, .null, .int 0, .null, .int 0, .int 0, .int 0, .null, .int 0, .long 0, .long 0, .int 0, .int 0, .int 0, .null, .null, .null, .null, .null, .int 0, .int 0, .int 0, .int 0, .int 0, .null, .long 0, .long 0, .long 0, .long 0, .int 0, .int 0]) rfl rfl dX12_init_116 ?_
  refine ze_aload_n E dX12_init_119 0 rfl rfl ?_
  refine ze_sipush E dX12_init_120 (v := 240) rfl ?_
  refine ze_newaI E (by decide) (N := 240) rfl (by decide) zw_45 ⟨by decide, by decide⟩ (c2 := (8, 1513)) rfl (n2 := 137) rfl dX12_init_123 ?_
  refine ze_putF E 128 (by decide) rfl rfl zin12 7 (by decide) zw_1175 tyX12 tyX12_ok nmX12 rfl hin rfl rfl rfl (Nat.le_of_ble_eq_true rfl) (fs2 := [.ref (C.X.1 + 129), .ref (C.X.1 + 130), .ref (C.X.1 + 131), .ref (C.X.1 + 132), .ref (C.X.1 + 133), .ref (C.X.1 + 134), .ref (C.X.1 + 135), .ref (C.X.1 + 136), .null, .null, .int 0, .int 0, .int 0, .null, .null, .null, .null, .null, .int 0, .int 0, .int 0, .int 0, .int 0, .int 0, .int 0, .int 0, .null, .null, .null, .null, .null, .null, .null, .null, .null, .null, .null, .null, .null, .null, .null, .null, .null, .null, .null, .null, .null, .null, .null, .null, .null, .null, .null, .null, .null, .null, .int 0, .null, .int 0, .int 0, .int 0, .null, .int 0, .long 0, .long 0, .int 0, .int 0, .int 0, .null, .null, .null, .null, .null, .int 0, .int 0, .int 0, .int 0, .int 0, .null, .long 0, .long 0, .long 0, .long 0, .int 0, .int 0]) rfl rfl dX12_init_125 ?_
  refine ze_aload_n E dX12_init_128 0 rfl rfl ?_
  refine ze_sipush E dX12_init_129 (v := 240) rfl ?_
  refine ze_newaI E (by decide) (N := 240) rfl (by decide) zw_45 ⟨by decide, by decide⟩ (c2 := (9, 1753)) rfl (n2 := 138) rfl dX12_init_132 ?_
  refine ze_putF E 128 (by decide) rfl rfl zin12 8 (by decide) zw_1176 tyX12 tyX12_ok nmX12 rfl hin rfl rfl rfl (Nat.le_of_ble_eq_true rfl) (fs2 := [.ref (C.X.1 + 129), .ref (C.X.1 + 130), .ref (C.X.1 + 131), .ref (C.X.1 + 132), .ref (C.X.1 + 133), .ref (C.X.1 + 134), .ref (C.X.1 + 135), .ref (C.X.1 + 136), .ref (C.X.1 + 137), .null, .int 0, .int 0, .int 0, .null, .null, .null, .null, .null, .int 0, .int 0, .int 0, .int 0, .int 0, .int 0, .int 0, .int 0, .null, .null, .null, .null, .null, .null, .null, .null, .null, .null, .null, .null, .null, .null, .null, .null, .null, .null, .null, .null, .null, .null, .null, .null, .null, .null, .null, .null, .null, .null, .int 0, .null, .int 0, .int 0, .int 0, .null, .int 0, .long 0, .long 0, .int 0, .int 0, .int 0, .null, .null, .null, .null, .null, .int 0, .int 0, .int 0, .int 0, .int 0, .null, .long 0, .long 0, .long 0, .long 0, .int 0, .int 0]) rfl rfl dX12_init_134 ?_
  refine ze_aload_n E dX12_init_137 0 rfl rfl ?_
  refine ze_bipush E dX12_init_138 (v := 6) rfl ?_
  refine ze_newaI E (by decide) (N := 6) rfl (by decide) zw_45 ⟨by decide, by decide⟩ (c2 := (10, 1759)) rfl (n2 := 139) rfl dX12_init_140 ?_
  refine ze_dup E dX12_init_142 rfl ?_
  refine ze_iconst E dX12_init_143 (v := 0) rfl ?_
  refine ze_iconst E dX12_init_144 (v := 1) rfl ?_
  refine ze_iast E 138 (by decide) rfl (by unfold vp_in; decide) (j := 0) rfl (x2 := 1) rfl rfl dX12_init_145 ?_
  refine ze_dup E dX12_init_146 rfl ?_
  refine ze_iconst E dX12_init_147 (v := 1) rfl ?_
  refine ze_bipush E dX12_init_148 (v := 12) rfl ?_
  refine ze_iast E 138 (by decide) rfl (by unfold vp_in; decide) (j := 1) rfl (x2 := 12) rfl rfl dX12_init_150 ?_
  refine ze_dup E dX12_init_151 rfl ?_
  refine ze_iconst E dX12_init_152 (v := 2) rfl ?_
  refine ze_sipush E dX12_init_153 (v := 240) rfl ?_
  refine ze_iast E 138 (by decide) rfl (by unfold vp_in; decide) (j := 2) rfl (x2 := 240) rfl rfl dX12_init_156 ?_
  refine ze_dup E dX12_init_157 rfl ?_
  refine ze_iconst E dX12_init_158 (v := 3) rfl ?_
  refine ze_sipush E dX12_init_159 (v := 4800) rfl ?_
  refine ze_iast E 138 (by decide) rfl (by unfold vp_in; decide) (j := 3) rfl (x2 := 4800) rfl rfl dX12_init_162 ?_
  refine ze_dup E dX12_init_163 rfl ?_
  refine ze_iconst E dX12_init_164 (v := 4) rfl ?_
  refine ze_sipush E dX12_init_165 (v := 24000) rfl ?_
  refine ze_iast E 138 (by decide) rfl (by unfold vp_in; decide) (j := 4) rfl (x2 := 24000) rfl rfl dX12_init_168 ?_
  refine ze_dup E dX12_init_169 rfl ?_
  refine ze_iconst E dX12_init_170 (v := 5) rfl ?_
  refine ze_ldc E dX12_init_171 (v := 240000) zw_1166 ?_
  refine ze_iast E 138 (by decide) rfl (by unfold vp_in; decide) (j := 5) rfl (x2 := 240000) rfl rfl dX12_init_173 ?_
  refine ze_putF E 128 (by decide) rfl rfl zin12 9 (by decide) zw_1177 tyX12 tyX12_ok nmX12 rfl hin rfl rfl rfl (Nat.le_of_ble_eq_true rfl) (fs2 := [.ref (C.X.1 + 129), .ref (C.X.1 + 130), .ref (C.X.1 + 131), .ref (C.X.1 + 132), .ref (C.X.1 + 133), .ref (C.X.1 + 134), .ref (C.X.1 + 135), .ref (C.X.1 + 136), .ref (C.X.1 + 137), .ref (C.X.1 + 138), .int 0, .int 0, .int 0, .null, .null, .null, .null, .null, .int 0, .int 0, .int 0, .int 0, .int 0, .int 0, .int 0, .int 0, .null, .null, .null, .null, .null, .null, .null, .null, .null, .null, .null, .null, .null, .null, .null, .null, .null, .null, .null, .null, .null, .null, .null, .null, .null, .null, .null, .null, .null, .null, .int 0, .null, .int 0, .int 0, .int 0, .null, .int 0, .long 0, .long 0, .int 0, .int 0, .int 0, .null, .null, .null, .null, .null, .int 0, .int 0, .int 0, .int 0, .int 0, .null, .long 0, .long 0, .long 0, .long 0, .int 0, .int 0]) rfl rfl dX12_init_174 ?_
  refine ze_aload_n E dX12_init_177 0 rfl rfl ?_
  refine ze_iconst E dX12_init_178 (v := 3) rfl ?_
  refine ze_put E 128 (by decide) rfl rfl zin12 10 (by decide) zw_1178 tyX12 tyX12_ok nmX12 rfl rfl rfl (Nat.le_of_ble_eq_true rfl) (fs2 := [.ref (C.X.1 + 129), .ref (C.X.1 + 130), .ref (C.X.1 + 131), .ref (C.X.1 + 132), .ref (C.X.1 + 133), .ref (C.X.1 + 134), .ref (C.X.1 + 135), .ref (C.X.1 + 136), .ref (C.X.1 + 137), .ref (C.X.1 + 138), .int 3, .int 0, .int 0, .null, .null, .null, .null, .null, .int 0, .int 0, .int 0, .int 0, .int 0, .int 0, .int 0, .int 0, .null, .null, .null, .null, .null, .null, .null, .null, .null, .null, .null, .null, .null, .null, .null, .null, .null, .null, .null, .null, .null, .null, .null, .null, .null, .null, .null, .null, .null, .null, .int 0, .null, .int 0, .int 0, .int 0, .null, .int 0, .long 0, .long 0, .int 0, .int 0, .int 0, .null, .null, .null, .null, .null, .int 0, .int 0, .int 0, .int 0, .int 0, .null, .long 0, .long 0, .long 0, .long 0, .int 0, .int 0]) rfl rfl dX12_init_179 ?_
  refine ze_aload_n E dX12_init_182 0 rfl rfl ?_
  refine ze_bipush E dX12_init_183 (v := 8) rfl ?_
  refine ze_put E 128 (by decide) rfl rfl zin12 11 (by decide) zw_1179 tyX12 tyX12_ok nmX12 rfl rfl rfl (Nat.le_of_ble_eq_true rfl) (fs2 := [.ref (C.X.1 + 129), .ref (C.X.1 + 130), .ref (C.X.1 + 131), .ref (C.X.1 + 132), .ref (C.X.1 + 133), .ref (C.X.1 + 134), .ref (C.X.1 + 135), .ref (C.X.1 + 136), .ref (C.X.1 + 137), .ref (C.X.1 + 138), .int 3, .int 8, .int 0, .null, .null, .null, .null, .null, .int 0, .int 0, .int 0, .int 0, .int 0, .int 0, .int 0, .int 0, .null, .null, .null, .null, .null, .null, .null, .null, .null, .null, .null, .null, .null, .null, .null, .null, .null, .null, .null, .null, .null, .null, .null, .null, .null, .null, .null, .null, .null, .null, .int 0, .null, .int 0, .int 0, .int 0, .null, .int 0, .long 0, .long 0, .int 0, .int 0, .int 0, .null, .null, .null, .null, .null, .int 0, .int 0, .int 0, .int 0, .int 0, .null, .long 0, .long 0, .long 0, .long 0, .int 0, .int 0]) rfl rfl dX12_init_185 ?_
  refine ze_aload_n E dX12_init_188 0 rfl rfl ?_
  refine ze_bipush E dX12_init_189 (v := 20) rfl ?_
  refine ze_put E 128 (by decide) rfl rfl zin12 12 (by decide) zw_1180 tyX12 tyX12_ok nmX12 rfl rfl rfl (Nat.le_of_ble_eq_true rfl) (fs2 := [.ref (C.X.1 + 129), .ref (C.X.1 + 130), .ref (C.X.1 + 131), .ref (C.X.1 + 132), .ref (C.X.1 + 133), .ref (C.X.1 + 134), .ref (C.X.1 + 135), .ref (C.X.1 + 136), .ref (C.X.1 + 137), .ref (C.X.1 + 138), .int 3, .int 8, .int 20, .null, .null, .null, .null, .null, .int 0, .int 0, .int 0, .int 0, .int 0, .int 0, .int 0, .int 0, .null, .null, .null, .null, .null, .null, .null, .null, .null, .null, .null, .null, .null, .null, .null, .null, .null, .null, .null, .null, .null, .null, .null, .null, .null, .null, .null, .null, .null, .null, .int 0, .null, .int 0, .int 0, .int 0, .null, .int 0, .long 0, .long 0, .int 0, .int 0, .int 0, .null, .null, .null, .null, .null, .int 0, .int 0, .int 0, .int 0, .int 0, .null, .long 0, .long 0, .long 0, .long 0, .int 0, .int 0]) rfl rfl dX12_init_191 ?_
  refine ze_aload_n E dX12_init_194 0 rfl rfl ?_
  refine ze_sipush E dX12_init_195 (v := 169) rfl ?_
  refine ze_newaI E (by decide) (N := 169) rfl (by decide) zw_45 ⟨by decide, by decide⟩ (c2 := (11, 1928)) rfl (n2 := 140) rfl dX12_init_198 ?_
  refine ze_putF E 128 (by decide) rfl rfl zin12 13 (by decide) zw_1181 tyX12 tyX12_ok nmX12 rfl hin rfl rfl rfl (Nat.le_of_ble_eq_true rfl) (fs2 := [.ref (C.X.1 + 129), .ref (C.X.1 + 130), .ref (C.X.1 + 131), .ref (C.X.1 + 132), .ref (C.X.1 + 133), .ref (C.X.1 + 134), .ref (C.X.1 + 135), .ref (C.X.1 + 136), .ref (C.X.1 + 137), .ref (C.X.1 + 138), .int 3, .int 8, .int 20, .ref (C.X.1 + 139), .null, .null, .null, .null, .int 0, .int 0, .int 0, .int 0, .int 0, .int 0, .int 0, .int 0, .null, .null, .null, .null, .null, .null, .null, .null, .null, .null, .null, .null, .null, .null, .null, .null, .null, .null, .null, .null, .null, .null, .null, .null, .null, .null, .null, .null, .null, .null, .int 0, .null, .int 0, .int 0, .int 0, .null, .int 0, .long 0, .long 0, .int 0, .int 0, .int 0, .null, .null, .null, .null, .null, .int 0, .int 0, .int 0, .int 0, .int 0, .null, .long 0, .long 0, .long 0, .long 0, .int 0, .int 0]) rfl rfl dX12_init_200 ?_
  refine ze_aload_n E dX12_init_203 0 rfl rfl ?_
  refine ze_sipush E dX12_init_204 (v := 11264) rfl ?_
  refine ze_newaI E (by decide) (N := 11264) rfl (by decide) zw_45 ⟨by decide, by decide⟩ (c2 := (12, 13192)) rfl (n2 := 141) rfl dX12_init_207 ?_
  refine ze_putF E 128 (by decide) rfl rfl zin12 14 (by decide) zw_1182 tyX12 tyX12_ok nmX12 rfl hin rfl rfl rfl (Nat.le_of_ble_eq_true rfl) (fs2 := [.ref (C.X.1 + 129), .ref (C.X.1 + 130), .ref (C.X.1 + 131), .ref (C.X.1 + 132), .ref (C.X.1 + 133), .ref (C.X.1 + 134), .ref (C.X.1 + 135), .ref (C.X.1 + 136), .ref (C.X.1 + 137), .ref (C.X.1 + 138), .int 3, .int 8, .int 20, .ref (C.X.1 + 139), .ref (C.X.1 + 140), .null, .null, .null, .int 0, .int 0, .int 0, .int 0, .int 0, .int 0, .int 0, .int 0, .null, .null, .null, .null, .null, .null, .null, .null, .null, .null, .null, .null, .null, .null, .null, .null, .null, .null, .null, .null, .null, .null, .null, .null, .null, .null, .null, .null, .null, .null, .int 0, .null, .int 0, .int 0, .int 0, .null, .int 0, .long 0, .long 0, .int 0, .int 0, .int 0, .null, .null, .null, .null, .null, .int 0, .int 0, .int 0, .int 0, .int 0, .null, .long 0, .long 0, .long 0, .long 0, .int 0, .int 0]) rfl rfl dX12_init_209 ?_
  refine ze_aload_n E dX12_init_212 0 rfl rfl ?_
  refine ze_bipush E dX12_init_213 (v := 10) rfl ?_
  refine ze_newaI E (by decide) (N := 10) rfl (by decide) zw_45 ⟨by decide, by decide⟩ (c2 := (13, 13202)) rfl (n2 := 142) rfl dX12_init_215 ?_
  refine ze_putF E 128 (by decide) rfl rfl zin12 15 (by decide) zw_1183 tyX12 tyX12_ok nmX12 rfl hin rfl rfl rfl (Nat.le_of_ble_eq_true rfl) (fs2 := [.ref (C.X.1 + 129), .ref (C.X.1 + 130), .ref (C.X.1 + 131), .ref (C.X.1 + 132), .ref (C.X.1 + 133), .ref (C.X.1 + 134), .ref (C.X.1 + 135), .ref (C.X.1 + 136), .ref (C.X.1 + 137), .ref (C.X.1 + 138), .int 3, .int 8, .int 20, .ref (C.X.1 + 139), .ref (C.X.1 + 140), .ref (C.X.1 + 141), .null, .null, .int 0, .int 0, .int 0, .int 0, .int 0, .int 0, .int 0, .int 0, .null, .null, .null, .null, .null, .null, .null, .null, .null, .null, .null, .null, .null, .null, .null, .null, .null, .null, .null, .null, .null, .null, .null, .null, .null, .null, .null, .null, .null, .null, .int 0, .null, .int 0, .int 0, .int 0, .null, .int 0, .long 0, .long 0, .int 0, .int 0, .int 0, .null, .null, .null, .null, .null, .int 0, .int 0, .int 0, .int 0, .int 0, .null, .long 0, .long 0, .long 0, .long 0, .int 0, .int 0]) rfl rfl dX12_init_217 ?_
  refine ze_aload_n E dX12_init_220 0 rfl rfl ?_
  refine ze_bipush E dX12_init_221 (v := 100) rfl ?_
  refine ze_newaI E (by decide) (N := 100) rfl (by decide) zw_45 ⟨by decide, by decide⟩ (c2 := (14, 13302)) rfl (n2 := 143) rfl dX12_init_223 ?_
  refine ze_putF E 128 (by decide) rfl rfl zin12 16 (by decide) zw_1184 tyX12 tyX12_ok nmX12 rfl hin rfl rfl rfl (Nat.le_of_ble_eq_true rfl) (fs2 := [.ref (C.X.1 + 129), .ref (C.X.1 + 130), .ref (C.X.1 + 131), .ref (C.X.1 + 132), .ref (C.X.1 + 133), .ref (C.X.1 + 134), .ref (C.X.1 + 135), .ref (C.X.1 + 136), .ref (C.X.1 + 137), .ref (C.X.1 + 138), .int 3, .int 8, .int 20, .ref (C.X.1 + 139), .ref (C.X.1 + 140), .ref (C.X.1 + 141), .ref (C.X.1 + 142), .null, .int 0, .int 0, .int 0, .int 0, .int 0, .int 0, .int 0, .int 0, .null, .null, .null, .null, .null, .null, .null, .null, .null, .null, .null, .null, .null, .null, .null, .null, .null, .null, .null, .null, .null, .null, .null, .null, .null, .null, .null, .null, .null, .null, .int 0, .null, .int 0, .int 0, .int 0, .null, .int 0, .long 0, .long 0, .int 0, .int 0, .int 0, .null, .null, .null, .null, .null, .int 0, .int 0, .int 0, .int 0, .int 0, .null, .long 0, .long 0, .long 0, .long 0, .int 0, .int 0]) rfl rfl dX12_init_225 ?_
  refine ze_aload_n E dX12_init_228 0 rfl rfl ?_
  refine ze_sipush E dX12_init_229 (v := 600) rfl ?_
  refine ze_newaI E (by decide) (N := 600) rfl (by decide) zw_45 ⟨by decide, by decide⟩ (c2 := (15, 13902)) rfl (n2 := 144) rfl dX12_init_232 ?_
  refine ze_putF E 128 (by decide) rfl rfl zin12 17 (by decide) zw_1185 tyX12 tyX12_ok nmX12 rfl hin rfl rfl rfl (Nat.le_of_ble_eq_true rfl) (fs2 := [.ref (C.X.1 + 129), .ref (C.X.1 + 130), .ref (C.X.1 + 131), .ref (C.X.1 + 132), .ref (C.X.1 + 133), .ref (C.X.1 + 134), .ref (C.X.1 + 135), .ref (C.X.1 + 136), .ref (C.X.1 + 137), .ref (C.X.1 + 138), .int 3, .int 8, .int 20, .ref (C.X.1 + 139), .ref (C.X.1 + 140), .ref (C.X.1 + 141), .ref (C.X.1 + 142), .ref (C.X.1 + 143), .int 0, .int 0, .int 0, .int 0, .int 0, .int 0, .int 0, .int 0, .null, .null, .null, .null, .null, .null, .null, .null, .null, .null, .null, .null, .null, .null, .null, .null, .null, .null, .null, .null, .null, .null, .null, .null, .null, .null, .null, .null, .null, .null, .int 0, .null, .int 0, .int 0, .int 0, .null, .int 0, .long 0, .long 0, .int 0, .int 0, .int 0, .null, .null, .null, .null, .null, .int 0, .int 0, .int 0, .int 0, .int 0, .null, .long 0, .long 0, .long 0, .long 0, .int 0, .int 0]) rfl rfl dX12_init_234 ?_
  refine ze_aload_n E dX12_init_237 0 rfl rfl ?_
  refine ze_iconst E dX12_init_238 (v := (-1)) rfl ?_
  refine ze_put E 128 (by decide) rfl rfl zin12 25 (by decide) zw_1193 tyX12 tyX12_ok nmX12 rfl rfl rfl (Nat.le_of_ble_eq_true rfl) (fs2 := [.ref (C.X.1 + 129), .ref (C.X.1 + 130), .ref (C.X.1 + 131), .ref (C.X.1 + 132), .ref (C.X.1 + 133), .ref (C.X.1 + 134), .ref (C.X.1 + 135), .ref (C.X.1 + 136), .ref (C.X.1 + 137), .ref (C.X.1 + 138), .int 3, .int 8, .int 20, .ref (C.X.1 + 139), .ref (C.X.1 + 140), .ref (C.X.1 + 141), .ref (C.X.1 + 142), .ref (C.X.1 + 143), .int 0, .int 0, .int 0, .int 0, .int 0, .int 0, .int 0, .int (-1), .null, .null, .null, .null, .null, .null, .null, .null, .null, .null, .null, .null, .null, .null, .null, .null, .null, .null, .null, .null, .null, .null, .null, .null, .null, .null, .null, .null, .null, .null, .int 0, .null, .int 0, .int 0, .int 0, .null, .int 0, .long 0, .long 0, .int 0, .int 0, .int 0, .null, .null, .null, .null, .null, .int 0, .int 0, .int 0, .int 0, .int 0, .null, .long 0, .long 0, .long 0, .long 0, .int 0, .int 0]) rfl rfl dX12_init_239 ?_
  refine ze_aload_n E dX12_init_242 0 rfl rfl ?_
  refine ze_iconst E dX12_init_243 (v := 4) rfl ?_
  refine ze_newaC E (by decide) (N := 4) rfl (by decide) zw_175 ⟨by decide, by decide⟩ (c2 := (16, 13906)) rfl (n2 := 145) rfl dX12_init_244 ?_
  refine ze_dup E dX12_init_246 rfl ?_
  refine ze_iconst E dX12_init_247 (v := 0) rfl ?_
  refine ze_bipush E dX12_init_248 (v := 102) rfl ?_
  refine ze_cast E 144 (by decide) rfl (by unfold vp_in; decide) (j := 0) rfl (x2 := 102) rfl rfl dX12_init_250 ?_
  refine ze_dup E dX12_init_251 rfl ?_
  refine ze_iconst E dX12_init_252 (v := 1) rfl ?_
  refine ze_bipush E dX12_init_253 (v := 97) rfl ?_
  refine ze_cast E 144 (by decide) rfl (by unfold vp_in; decide) (j := 1) rfl (x2 := 97) rfl rfl dX12_init_255 ?_
  refine ze_dup E dX12_init_256 rfl ?_
  refine ze_iconst E dX12_init_257 (v := 2) rfl ?_
  refine ze_bipush E dX12_init_258 (v := 114) rfl ?_
  refine ze_cast E 144 (by decide) rfl (by unfold vp_in; decide) (j := 2) rfl (x2 := 114) rfl rfl dX12_init_260 ?_
  refine ze_dup E dX12_init_261 rfl ?_
  refine ze_iconst E dX12_init_262 (v := 3) rfl ?_
  refine ze_bipush E dX12_init_263 (v := 109) rfl ?_
  refine ze_cast E 144 (by decide) rfl (by unfold vp_in; decide) (j := 3) rfl (x2 := 109) rfl rfl dX12_init_265 ?_
  refine ze_putF E 128 (by decide) rfl rfl zin12 26 (by decide) zw_1194 tyX12 tyX12_ok nmX12 rfl hin rfl rfl rfl (Nat.le_of_ble_eq_true rfl) (fs2 := [.ref (C.X.1 + 129), .ref (C.X.1 + 130), .ref (C.X.1 + 131), .ref (C.X.1 + 132), .ref (C.X.1 + 133), .ref (C.X.1 + 134), .ref (C.X.1 + 135), .ref (C.X.1 + 136), .ref (C.X.1 + 137), .ref (C.X.1 + 138), .int 3, .int 8, .int 20, .ref (C.X.1 + 139), .ref (C.X.1 + 140), .ref (C.X.1 + 141), .ref (C.X.1 + 142), .ref (C.X.1 + 143), .int 0, .int 0, .int 0, .int 0, .int 0, .int 0, .int 0, .int (-1), .ref (C.X.1 + 144), .null, .null, .null, .null, .null, .null, .null, .null, .null, .null, .null, .null, .null, .null, .null, .null, .null, .null, .null, .null, .null, .null, .null, .null, .null, .null, .null, .null, .null, .int 0, .null, .int 0, .int 0, .int 0, .null, .int 0, .long 0, .long 0, .int 0, .int 0, .int 0, .null, .null, .null, .null, .null, .int 0, .int 0, .int 0, .int 0, .int 0, .null, .long 0, .long 0, .long 0, .long 0, .int 0, .int 0]) rfl rfl dX12_init_266 ?_
  refine ze_aload_n E dX12_init_269 0 rfl rfl ?_
  refine ze_bipush E dX12_init_270 (v := 8) rfl ?_
  refine ze_newaC E (by decide) (N := 8) rfl (by decide) zw_175 ⟨by decide, by decide⟩ (c2 := (17, 13914)) rfl (n2 := 146) rfl dX12_init_272 ?_
  refine ze_dup E dX12_init_274 rfl ?_
  refine ze_iconst E dX12_init_275 (v := 0) rfl ?_
  refine ze_bipush E dX12_init_276 (v := 98) rfl ?_
  refine ze_cast E 145 (by decide) rfl (by unfold vp_in; decide) (j := 0) rfl (x2 := 98) rfl rfl dX12_init_278 ?_
  refine ze_dup E dX12_init_279 rfl ?_
  refine ze_iconst E dX12_init_280 (v := 1) rfl ?_
  refine ze_bipush E dX12_init_281 (v := 108) rfl ?_
  refine ze_cast E 145 (by decide) rfl (by unfold vp_in; decide) (j := 1) rfl (x2 := 108) rfl rfl dX12_init_283 ?_
  refine ze_dup E dX12_init_284 rfl ?_
  refine ze_iconst E dX12_init_285 (v := 2) rfl ?_
  refine ze_bipush E dX12_init_286 (v := 97) rfl ?_
  refine ze_cast E 145 (by decide) rfl (by unfold vp_in; decide) (j := 2) rfl (x2 := 97) rfl rfl dX12_init_288 ?_
  refine ze_dup E dX12_init_289 rfl ?_
  refine ze_iconst E dX12_init_290 (v := 3) rfl ?_
  refine ze_bipush E dX12_init_291 (v := 110) rfl ?_
  refine ze_cast E 145 (by decide) rfl (by unfold vp_in; decide) (j := 3) rfl (x2 := 110) rfl rfl dX12_init_293 ?_
  refine ze_dup E dX12_init_294 rfl ?_
  refine ze_iconst E dX12_init_295 (v := 4) rfl ?_
  refine ze_bipush E dX12_init_296 (v := 99) rfl ?_
  refine ze_cast E 145 (by decide) rfl (by unfold vp_in; decide) (j := 4) rfl (x2 := 99) rfl rfl dX12_init_298 ?_
  refine ze_dup E dX12_init_299 rfl ?_
  refine ze_iconst E dX12_init_300 (v := 5) rfl ?_
  refine ze_bipush E dX12_init_301 (v := 104) rfl ?_
  refine ze_cast E 145 (by decide) rfl (by unfold vp_in; decide) (j := 5) rfl (x2 := 104) rfl rfl dX12_init_303 ?_
  refine ze_dup E dX12_init_304 rfl ?_
  refine ze_bipush E dX12_init_305 (v := 6) rfl ?_
  refine ze_bipush E dX12_init_307 (v := 101) rfl ?_
  refine ze_cast E 145 (by decide) rfl (by unfold vp_in; decide) (j := 6) rfl (x2 := 101) rfl rfl dX12_init_309 ?_
  refine ze_dup E dX12_init_310 rfl ?_
  refine ze_bipush E dX12_init_311 (v := 7) rfl ?_
  refine ze_bipush E dX12_init_313 (v := 100) rfl ?_
  refine ze_cast E 145 (by decide) rfl (by unfold vp_in; decide) (j := 7) rfl (x2 := 100) rfl rfl dX12_init_315 ?_
  refine ze_putF E 128 (by decide) rfl rfl zin12 27 (by decide) zw_1195 tyX12 tyX12_ok nmX12 rfl hin rfl rfl rfl (Nat.le_of_ble_eq_true rfl) (fs2 := [.ref (C.X.1 + 129), .ref (C.X.1 + 130), .ref (C.X.1 + 131), .ref (C.X.1 + 132), .ref (C.X.1 + 133), .ref (C.X.1 + 134), .ref (C.X.1 + 135), .ref (C.X.1 + 136), .ref (C.X.1 + 137), .ref (C.X.1 + 138), .int 3, .int 8, .int 20, .ref (C.X.1 + 139), .ref (C.X.1 + 140), .ref (C.X.1 + 141), .ref (C.X.1 + 142), .ref (C.X.1 + 143), .int 0, .int 0, .int 0, .int 0, .int 0, .int 0, .int 0, .int (-1), .ref (C.X.1 + 144), .ref (C.X.1 + 145), .null, .null, .null, .null, .null, .null, .null, .null, .null, .null, .null, .null, .null, .null, .null, .null, .null, .null, .null, .null, .null, .null, .null, .null, .null, .null, .null, .null, .int 0, .null, .int 0, .int 0, .int 0, .null, .int 0, .long 0, .long 0, .int 0, .int 0, .int 0, .null, .null, .null, .null, .null, .int 0, .int 0, .int 0, .int 0, .int 0, .null, .long 0, .long 0, .long 0, .long 0, .int 0, .int 0]) rfl rfl dX12_init_316 ?_
  refine ze_aload_n E dX12_init_319 0 rfl rfl ?_
  refine ze_iconst E dX12_init_320 (v := 5) rfl ?_
  refine ze_newaC E (by decide) (N := 5) rfl (by decide) zw_175 ⟨by decide, by decide⟩ (c2 := (18, 13919)) rfl (n2 := 147) rfl dX12_init_321 ?_
  refine ze_dup E dX12_init_323 rfl ?_
  refine ze_iconst E dX12_init_324 (v := 0) rfl ?_
  refine ze_bipush E dX12_init_325 (v := 97) rfl ?_
  refine ze_cast E 146 (by decide) rfl (by unfold vp_in; decide) (j := 0) rfl (x2 := 97) rfl rfl dX12_init_327 ?_
  refine ze_dup E dX12_init_328 rfl ?_
  refine ze_iconst E dX12_init_329 (v := 1) rfl ?_
  refine ze_bipush E dX12_init_330 (v := 108) rfl ?_
  refine ze_cast E 146 (by decide) rfl (by unfold vp_in; decide) (j := 1) rfl (x2 := 108) rfl rfl dX12_init_332 ?_
  refine ze_dup E dX12_init_333 rfl ?_
  refine ze_iconst E dX12_init_334 (v := 2) rfl ?_
  refine ze_bipush E dX12_init_335 (v := 108) rfl ?_
  refine ze_cast E 146 (by decide) rfl (by unfold vp_in; decide) (j := 2) rfl (x2 := 108) rfl rfl dX12_init_337 ?_
  refine ze_dup E dX12_init_338 rfl ?_
  refine ze_iconst E dX12_init_339 (v := 3) rfl ?_
  refine ze_bipush E dX12_init_340 (v := 111) rfl ?_
  refine ze_cast E 146 (by decide) rfl (by unfold vp_in; decide) (j := 3) rfl (x2 := 111) rfl rfl dX12_init_342 ?_
  refine ze_dup E dX12_init_343 rfl ?_
  refine ze_iconst E dX12_init_344 (v := 4) rfl ?_
  refine ze_bipush E dX12_init_345 (v := 119) rfl ?_
  refine ze_cast E 146 (by decide) rfl (by unfold vp_in; decide) (j := 4) rfl (x2 := 119) rfl rfl dX12_init_347 ?_
  refine ze_putF E 128 (by decide) rfl rfl zin12 28 (by decide) zw_1196 tyX12 tyX12_ok nmX12 rfl hin rfl rfl rfl (Nat.le_of_ble_eq_true rfl) (fs2 := [.ref (C.X.1 + 129), .ref (C.X.1 + 130), .ref (C.X.1 + 131), .ref (C.X.1 + 132), .ref (C.X.1 + 133), .ref (C.X.1 + 134), .ref (C.X.1 + 135), .ref (C.X.1 + 136), .ref (C.X.1 + 137), .ref (C.X.1 + 138), .int 3, .int 8, .int 20, .ref (C.X.1 + 139), .ref (C.X.1 + 140), .ref (C.X.1 + 141), .ref (C.X.1 + 142), .ref (C.X.1 + 143), .int 0, .int 0, .int 0, .int 0, .int 0, .int 0, .int 0, .int (-1), .ref (C.X.1 + 144), .ref (C.X.1 + 145), .ref (C.X.1 + 146), .null, .null, .null, .null, .null, .null, .null, .null, .null, .null, .null, .null, .null, .null, .null, .null, .null, .null, .null, .null, .null, .null, .null, .null, .null, .null, .null, .int 0, .null, .int 0, .int 0, .int 0, .null, .int 0, .long 0, .long 0, .int 0, .int 0, .int 0, .null, .null, .null, .null, .null, .int 0, .int 0, .int 0, .int 0, .int 0, .null, .long 0, .long 0, .long 0, .long 0, .int 0, .int 0]) rfl rfl dX12_init_348 ?_
  refine ze_aload_n E dX12_init_351 0 rfl rfl ?_
  refine ze_bipush E dX12_init_352 (v := 6) rfl ?_
  refine ze_newaC E (by decide) (N := 6) rfl (by decide) zw_175 ⟨by decide, by decide⟩ (c2 := (19, 13925)) rfl (n2 := 148) rfl dX12_init_354 ?_
  refine ze_dup E dX12_init_356 rfl ?_
  refine ze_iconst E dX12_init_357 (v := 0) rfl ?_
  refine ze_bipush E dX12_init_358 (v := 112) rfl ?_
  refine ze_cast E 147 (by decide) rfl (by unfold vp_in; decide) (j := 0) rfl (x2 := 112) rfl rfl dX12_init_360 ?_
  refine ze_dup E dX12_init_361 rfl ?_
  refine ze_iconst E dX12_init_362 (v := 1) rfl ?_
  refine ze_bipush E dX12_init_363 (v := 97) rfl ?_
  refine ze_cast E 147 (by decide) rfl (by unfold vp_in; decide) (j := 1) rfl (x2 := 97) rfl rfl dX12_init_365 ?_
  refine ze_dup E dX12_init_366 rfl ?_
  refine ze_iconst E dX12_init_367 (v := 2) rfl ?_
  refine ze_bipush E dX12_init_368 (v := 114) rfl ?_
  refine ze_cast E 147 (by decide) rfl (by unfold vp_in; decide) (j := 2) rfl (x2 := 114) rfl rfl dX12_init_370 ?_
  refine ze_dup E dX12_init_371 rfl ?_
  refine ze_iconst E dX12_init_372 (v := 3) rfl ?_
  refine ze_bipush E dX12_init_373 (v := 100) rfl ?_
  refine ze_cast E 147 (by decide) rfl (by unfold vp_in; decide) (j := 3) rfl (x2 := 100) rfl rfl dX12_init_375 ?_
  refine ze_dup E dX12_init_376 rfl ?_
  refine ze_iconst E dX12_init_377 (v := 4) rfl ?_
  refine ze_bipush E dX12_init_378 (v := 111) rfl ?_
  refine ze_cast E 147 (by decide) rfl (by unfold vp_in; decide) (j := 4) rfl (x2 := 111) rfl rfl dX12_init_380 ?_
  refine ze_dup E dX12_init_381 rfl ?_
  refine ze_iconst E dX12_init_382 (v := 5) rfl ?_
  refine ze_bipush E dX12_init_383 (v := 110) rfl ?_
  refine ze_cast E 147 (by decide) rfl (by unfold vp_in; decide) (j := 5) rfl (x2 := 110) rfl rfl dX12_init_385 ?_
  refine ze_putF E 128 (by decide) rfl rfl zin12 29 (by decide) zw_1197 tyX12 tyX12_ok nmX12 rfl hin rfl rfl rfl (Nat.le_of_ble_eq_true rfl) (fs2 := [.ref (C.X.1 + 129), .ref (C.X.1 + 130), .ref (C.X.1 + 131), .ref (C.X.1 + 132), .ref (C.X.1 + 133), .ref (C.X.1 + 134), .ref (C.X.1 + 135), .ref (C.X.1 + 136), .ref (C.X.1 + 137), .ref (C.X.1 + 138), .int 3, .int 8, .int 20, .ref (C.X.1 + 139), .ref (C.X.1 + 140), .ref (C.X.1 + 141), .ref (C.X.1 + 142), .ref (C.X.1 + 143), .int 0, .int 0, .int 0, .int 0, .int 0, .int 0, .int 0, .int (-1), .ref (C.X.1 + 144), .ref (C.X.1 + 145), .ref (C.X.1 + 146), .ref (C.X.1 + 147), .null, .null, .null, .null, .null, .null, .null, .null, .null, .null, .null, .null, .null, .null, .null, .null, .null, .null, .null, .null, .null, .null, .null, .null, .null, .null, .int 0, .null, .int 0, .int 0, .int 0, .null, .int 0, .long 0, .long 0, .int 0, .int 0, .int 0, .null, .null, .null, .null, .null, .int 0, .int 0, .int 0, .int 0, .int 0, .null, .long 0, .long 0, .long 0, .long 0, .int 0, .int 0]) rfl rfl dX12_init_386 ?_
  refine ze_aload_n E dX12_init_389 0 rfl rfl ?_
  refine ze_iconst E dX12_init_390 (v := 5) rfl ?_
  refine ze_newaC E (by decide) (N := 5) rfl (by decide) zw_175 ⟨by decide, by decide⟩ (c2 := (20, 13930)) rfl (n2 := 149) rfl dX12_init_391 ?_
  refine ze_dup E dX12_init_393 rfl ?_
  refine ze_iconst E dX12_init_394 (v := 0) rfl ?_
  refine ze_bipush E dX12_init_395 (v := 115) rfl ?_
  refine ze_cast E 148 (by decide) rfl (by unfold vp_in; decide) (j := 0) rfl (x2 := 115) rfl rfl dX12_init_397 ?_
  refine ze_dup E dX12_init_398 rfl ?_
  refine ze_iconst E dX12_init_399 (v := 1) rfl ?_
  refine ze_bipush E dX12_init_400 (v := 112) rfl ?_
  refine ze_cast E 148 (by decide) rfl (by unfold vp_in; decide) (j := 1) rfl (x2 := 112) rfl rfl dX12_init_402 ?_
  refine ze_dup E dX12_init_403 rfl ?_
  refine ze_iconst E dX12_init_404 (v := 2) rfl ?_
  refine ze_bipush E dX12_init_405 (v := 108) rfl ?_
  refine ze_cast E 148 (by decide) rfl (by unfold vp_in; decide) (j := 2) rfl (x2 := 108) rfl rfl dX12_init_407 ?_
  refine ze_dup E dX12_init_408 rfl ?_
  refine ze_iconst E dX12_init_409 (v := 3) rfl ?_
  refine ze_bipush E dX12_init_410 (v := 105) rfl ?_
  refine ze_cast E 148 (by decide) rfl (by unfold vp_in; decide) (j := 3) rfl (x2 := 105) rfl rfl dX12_init_412 ?_
  refine ze_dup E dX12_init_413 rfl ?_
  refine ze_iconst E dX12_init_414 (v := 4) rfl ?_
  refine ze_bipush E dX12_init_415 (v := 116) rfl ?_
  refine ze_cast E 148 (by decide) rfl (by unfold vp_in; decide) (j := 4) rfl (x2 := 116) rfl rfl dX12_init_417 ?_
  refine ze_putF E 128 (by decide) rfl rfl zin12 30 (by decide) zw_1198 tyX12 tyX12_ok nmX12 rfl hin rfl rfl rfl (Nat.le_of_ble_eq_true rfl) (fs2 := [.ref (C.X.1 + 129), .ref (C.X.1 + 130), .ref (C.X.1 + 131), .ref (C.X.1 + 132), .ref (C.X.1 + 133), .ref (C.X.1 + 134), .ref (C.X.1 + 135), .ref (C.X.1 + 136), .ref (C.X.1 + 137), .ref (C.X.1 + 138), .int 3, .int 8, .int 20, .ref (C.X.1 + 139), .ref (C.X.1 + 140), .ref (C.X.1 + 141), .ref (C.X.1 + 142), .ref (C.X.1 + 143), .int 0, .int 0, .int 0, .int 0, .int 0, .int 0, .int 0, .int (-1), .ref (C.X.1 + 144), .ref (C.X.1 + 145), .ref (C.X.1 + 146), .ref (C.X.1 + 147), .ref (C.X.1 + 148), .null, .null, .null, .null, .null, .null, .null, .null, .null, .null, .null, .null, .null, .null, .null, .null, .null, .null, .null, .null, .null, .null, .null, .null, .null, .int 0, .null, .int 0, .int 0, .int 0, .null, .int 0, .long 0, .long 0, .int 0, .int 0, .int 0, .null, .null, .null, .null, .null, .int 0, .int 0, .int 0, .int 0, .int 0, .null, .long 0, .long 0, .long 0, .long 0, .int 0, .int 0]) rfl rfl dX12_init_418 ?_
  refine ze_aload_n E dX12_init_421 0 rfl rfl ?_
  refine ze_iconst E dX12_init_422 (v := 2) rfl ?_
  refine ze_newaC E (by decide) (N := 2) rfl (by decide) zw_175 ⟨by decide, by decide⟩ (c2 := (21, 13932)) rfl (n2 := 150) rfl dX12_init_423 ?_
  refine ze_dup E dX12_init_425 rfl ?_
  refine ze_iconst E dX12_init_426 (v := 0) rfl ?_
  refine ze_bipush E dX12_init_427 (v := 105) rfl ?_
  refine ze_cast E 149 (by decide) rfl (by unfold vp_in; decide) (j := 0) rfl (x2 := 105) rfl rfl dX12_init_429 ?_
  refine ze_dup E dX12_init_430 rfl ?_
  refine ze_iconst E dX12_init_431 (v := 1) rfl ?_
  refine ze_bipush E dX12_init_432 (v := 110) rfl ?_
  refine ze_cast E 149 (by decide) rfl (by unfold vp_in; decide) (j := 1) rfl (x2 := 110) rfl rfl dX12_init_434 ?_
  refine ze_putF E 128 (by decide) rfl rfl zin12 31 (by decide) zw_1199 tyX12 tyX12_ok nmX12 rfl hin rfl rfl rfl (Nat.le_of_ble_eq_true rfl) (fs2 := [.ref (C.X.1 + 129), .ref (C.X.1 + 130), .ref (C.X.1 + 131), .ref (C.X.1 + 132), .ref (C.X.1 + 133), .ref (C.X.1 + 134), .ref (C.X.1 + 135), .ref (C.X.1 + 136), .ref (C.X.1 + 137), .ref (C.X.1 + 138), .int 3, .int 8, .int 20, .ref (C.X.1 + 139), .ref (C.X.1 + 140), .ref (C.X.1 + 141), .ref (C.X.1 + 142), .ref (C.X.1 + 143), .int 0, .int 0, .int 0, .int 0, .int 0, .int 0, .int 0, .int (-1), .ref (C.X.1 + 144), .ref (C.X.1 + 145), .ref (C.X.1 + 146), .ref (C.X.1 + 147), .ref (C.X.1 + 148), .ref (C.X.1 + 149), .null, .null, .null, .null, .null, .null, .null, .null, .null, .null, .null, .null, .null, .null, .null, .null, .null, .null, .null, .null, .null, .null, .null, .null, .int 0, .null, .int 0, .int 0, .int 0, .null, .int 0, .long 0, .long 0, .int 0, .int 0, .int 0, .null, .null, .null, .null, .null, .int 0, .int 0, .int 0, .int 0, .int 0, .null, .long 0, .long 0, .long 0, .long 0, .int 0, .int 0]) rfl rfl dX12_init_435 ?_
  refine ze_aload_n E dX12_init_438 0 rfl rfl ?_
  refine ze_iconst E dX12_init_439 (v := 3) rfl ?_
  refine ze_newaC E (by decide) (N := 3) rfl (by decide) zw_175 ⟨by decide, by decide⟩ (c2 := (22, 13935)) rfl (n2 := 151) rfl dX12_init_440 ?_
  refine ze_dup E dX12_init_442 rfl ?_
  refine ze_iconst E dX12_init_443 (v := 0) rfl ?_
  refine ze_bipush E dX12_init_444 (v := 102) rfl ?_
  refine ze_cast E 150 (by decide) rfl (by unfold vp_in; decide) (j := 0) rfl (x2 := 102) rfl rfl dX12_init_446 ?_
  refine ze_dup E dX12_init_447 rfl ?_
  refine ze_iconst E dX12_init_448 (v := 1) rfl ?_
  refine ze_bipush E dX12_init_449 (v := 111) rfl ?_
  refine ze_cast E 150 (by decide) rfl (by unfold vp_in; decide) (j := 1) rfl (x2 := 111) rfl rfl dX12_init_451 ?_
  refine ze_dup E dX12_init_452 rfl ?_
  refine ze_iconst E dX12_init_453 (v := 2) rfl ?_
  refine ze_bipush E dX12_init_454 (v := 114) rfl ?_
  refine ze_cast E 150 (by decide) rfl (by unfold vp_in; decide) (j := 2) rfl (x2 := 114) rfl rfl dX12_init_456 ?_
  refine ze_putF E 128 (by decide) rfl rfl zin12 32 (by decide) zw_1200 tyX12 tyX12_ok nmX12 rfl hin rfl rfl rfl (Nat.le_of_ble_eq_true rfl) (fs2 := [.ref (C.X.1 + 129), .ref (C.X.1 + 130), .ref (C.X.1 + 131), .ref (C.X.1 + 132), .ref (C.X.1 + 133), .ref (C.X.1 + 134), .ref (C.X.1 + 135), .ref (C.X.1 + 136), .ref (C.X.1 + 137), .ref (C.X.1 + 138), .int 3, .int 8, .int 20, .ref (C.X.1 + 139), .ref (C.X.1 + 140), .ref (C.X.1 + 141), .ref (C.X.1 + 142), .ref (C.X.1 + 143), .int 0, .int 0, .int 0, .int 0, .int 0, .int 0, .int 0, .int (-1), .ref (C.X.1 + 144), .ref (C.X.1 + 145), .ref (C.X.1 + 146), .ref (C.X.1 + 147), .ref (C.X.1 + 148), .ref (C.X.1 + 149), .ref (C.X.1 + 150), .null, .null, .null, .null, .null, .null, .null, .null, .null, .null, .null, .null, .null, .null, .null, .null, .null, .null, .null, .null, .null, .null, .null, .int 0, .null, .int 0, .int 0, .int 0, .null, .int 0, .long 0, .long 0, .int 0, .int 0, .int 0, .null, .null, .null, .null, .null, .int 0, .int 0, .int 0, .int 0, .int 0, .null, .long 0, .long 0, .long 0, .long 0, .int 0, .int 0]) rfl rfl dX12_init_457 ?_
  refine ze_aload_n E dX12_init_460 0 rfl rfl ?_
  refine ze_iconst E dX12_init_461 (v := 2) rfl ?_
  refine ze_newaC E (by decide) (N := 2) rfl (by decide) zw_175 ⟨by decide, by decide⟩ (c2 := (23, 13937)) rfl (n2 := 152) rfl dX12_init_462 ?_
  refine ze_dup E dX12_init_464 rfl ?_
  refine ze_iconst E dX12_init_465 (v := 0) rfl ?_
  refine ze_bipush E dX12_init_466 (v := 111) rfl ?_
  refine ze_cast E 151 (by decide) rfl (by unfold vp_in; decide) (j := 0) rfl (x2 := 111) rfl rfl dX12_init_468 ?_
  refine ze_dup E dX12_init_469 rfl ?_
  refine ze_iconst E dX12_init_470 (v := 1) rfl ?_
  refine ze_bipush E dX12_init_471 (v := 114) rfl ?_
  refine ze_cast E 151 (by decide) rfl (by unfold vp_in; decide) (j := 1) rfl (x2 := 114) rfl rfl dX12_init_473 ?_
  refine ze_putF E 128 (by decide) rfl rfl zin12 33 (by decide) zw_1201 tyX12 tyX12_ok nmX12 rfl hin rfl rfl rfl (Nat.le_of_ble_eq_true rfl) (fs2 := [.ref (C.X.1 + 129), .ref (C.X.1 + 130), .ref (C.X.1 + 131), .ref (C.X.1 + 132), .ref (C.X.1 + 133), .ref (C.X.1 + 134), .ref (C.X.1 + 135), .ref (C.X.1 + 136), .ref (C.X.1 + 137), .ref (C.X.1 + 138), .int 3, .int 8, .int 20, .ref (C.X.1 + 139), .ref (C.X.1 + 140), .ref (C.X.1 + 141), .ref (C.X.1 + 142), .ref (C.X.1 + 143), .int 0, .int 0, .int 0, .int 0, .int 0, .int 0, .int 0, .int (-1), .ref (C.X.1 + 144), .ref (C.X.1 + 145), .ref (C.X.1 + 146), .ref (C.X.1 + 147), .ref (C.X.1 + 148), .ref (C.X.1 + 149), .ref (C.X.1 + 150), .ref (C.X.1 + 151), .null, .null, .null, .null, .null, .null, .null, .null, .null, .null, .null, .null, .null, .null, .null, .null, .null, .null, .null, .null, .null, .null, .int 0, .null, .int 0, .int 0, .int 0, .null, .int 0, .long 0, .long 0, .int 0, .int 0, .int 0, .null, .null, .null, .null, .null, .int 0, .int 0, .int 0, .int 0, .int 0, .null, .long 0, .long 0, .long 0, .long 0, .int 0, .int 0]) rfl rfl dX12_init_474 ?_
  refine ze_aload_n E dX12_init_477 0 rfl rfl ?_
  refine ze_iconst E dX12_init_478 (v := 3) rfl ?_
  refine ze_newaC E (by decide) (N := 3) rfl (by decide) zw_175 ⟨by decide, by decide⟩ (c2 := (24, 13940)) rfl (n2 := 153) rfl dX12_init_479 ?_
  refine ze_dup E dX12_init_481 rfl ?_
  refine ze_iconst E dX12_init_482 (v := 0) rfl ?_
  refine ze_bipush E dX12_init_483 (v := 97) rfl ?_
  refine ze_cast E 152 (by decide) rfl (by unfold vp_in; decide) (j := 0) rfl (x2 := 97) rfl rfl dX12_init_485 ?_
  refine ze_dup E dX12_init_486 rfl ?_
  refine ze_iconst E dX12_init_487 (v := 1) rfl ?_
  refine ze_bipush E dX12_init_488 (v := 110) rfl ?_
  refine ze_cast E 152 (by decide) rfl (by unfold vp_in; decide) (j := 1) rfl (x2 := 110) rfl rfl dX12_init_490 ?_
  refine ze_dup E dX12_init_491 rfl ?_
  refine ze_iconst E dX12_init_492 (v := 2) rfl ?_
  refine ze_bipush E dX12_init_493 (v := 100) rfl ?_
  refine ze_cast E 152 (by decide) rfl (by unfold vp_in; decide) (j := 2) rfl (x2 := 100) rfl rfl dX12_init_495 ?_
  refine ze_putF E 128 (by decide) rfl rfl zin12 34 (by decide) zw_1202 tyX12 tyX12_ok nmX12 rfl hin rfl rfl rfl (Nat.le_of_ble_eq_true rfl) (fs2 := [.ref (C.X.1 + 129), .ref (C.X.1 + 130), .ref (C.X.1 + 131), .ref (C.X.1 + 132), .ref (C.X.1 + 133), .ref (C.X.1 + 134), .ref (C.X.1 + 135), .ref (C.X.1 + 136), .ref (C.X.1 + 137), .ref (C.X.1 + 138), .int 3, .int 8, .int 20, .ref (C.X.1 + 139), .ref (C.X.1 + 140), .ref (C.X.1 + 141), .ref (C.X.1 + 142), .ref (C.X.1 + 143), .int 0, .int 0, .int 0, .int 0, .int 0, .int 0, .int 0, .int (-1), .ref (C.X.1 + 144), .ref (C.X.1 + 145), .ref (C.X.1 + 146), .ref (C.X.1 + 147), .ref (C.X.1 + 148), .ref (C.X.1 + 149), .ref (C.X.1 + 150), .ref (C.X.1 + 151), .ref (C.X.1 + 152), .null, .null, .null, .null, .null, .null, .null, .null, .null, .null, .null, .null, .null, .null, .null, .null, .null, .null, .null, .null, .null, .int 0, .null, .int 0, .int 0, .int 0, .null, .int 0, .long 0, .long 0, .int 0, .int 0, .int 0, .null, .null, .null, .null, .null, .int 0, .int 0, .int 0, .int 0, .int 0, .null, .long 0, .long 0, .long 0, .long 0, .int 0, .int 0]) rfl rfl dX12_init_496 ?_
  refine ze_aload_n E dX12_init_499 0 rfl rfl ?_
  refine ze_iconst E dX12_init_500 (v := 3) rfl ?_
  refine ze_newaC E (by decide) (N := 3) rfl (by decide) zw_175 ⟨by decide, by decide⟩ (c2 := (25, 13943)) rfl (n2 := 154) rfl dX12_init_501 ?_
  refine ze_dup E dX12_init_503 rfl ?_
  refine ze_iconst E dX12_init_504 (v := 0) rfl ?_
  refine ze_bipush E dX12_init_505 (v := 110) rfl ?_
  refine ze_cast E 153 (by decide) rfl (by unfold vp_in; decide) (j := 0) rfl (x2 := 110) rfl rfl dX12_init_507 ?_
  refine ze_dup E dX12_init_508 rfl ?_
  refine ze_iconst E dX12_init_509 (v := 1) rfl ?_
  refine ze_bipush E dX12_init_510 (v := 111) rfl ?_
  refine ze_cast E 153 (by decide) rfl (by unfold vp_in; decide) (j := 1) rfl (x2 := 111) rfl rfl dX12_init_512 ?_
  refine ze_dup E dX12_init_513 rfl ?_
  refine ze_iconst E dX12_init_514 (v := 2) rfl ?_
  refine ze_bipush E dX12_init_515 (v := 116) rfl ?_
  refine ze_cast E 153 (by decide) rfl (by unfold vp_in; decide) (j := 2) rfl (x2 := 116) rfl rfl dX12_init_517 ?_
  refine ze_putF E 128 (by decide) rfl rfl zin12 35 (by decide) zw_1203 tyX12 tyX12_ok nmX12 rfl hin rfl rfl rfl (Nat.le_of_ble_eq_true rfl) (fs2 := [.ref (C.X.1 + 129), .ref (C.X.1 + 130), .ref (C.X.1 + 131), .ref (C.X.1 + 132), .ref (C.X.1 + 133), .ref (C.X.1 + 134), .ref (C.X.1 + 135), .ref (C.X.1 + 136), .ref (C.X.1 + 137), .ref (C.X.1 + 138), .int 3, .int 8, .int 20, .ref (C.X.1 + 139), .ref (C.X.1 + 140), .ref (C.X.1 + 141), .ref (C.X.1 + 142), .ref (C.X.1 + 143), .int 0, .int 0, .int 0, .int 0, .int 0, .int 0, .int 0, .int (-1), .ref (C.X.1 + 144), .ref (C.X.1 + 145), .ref (C.X.1 + 146), .ref (C.X.1 + 147), .ref (C.X.1 + 148), .ref (C.X.1 + 149), .ref (C.X.1 + 150), .ref (C.X.1 + 151), .ref (C.X.1 + 152), .ref (C.X.1 + 153), .null, .null, .null, .null, .null, .null, .null, .null, .null, .null, .null, .null, .null, .null, .null, .null, .null, .null, .null, .null, .int 0, .null, .int 0, .int 0, .int 0, .null, .int 0, .long 0, .long 0, .int 0, .int 0, .int 0, .null, .null, .null, .null, .null, .int 0, .int 0, .int 0, .int 0, .int 0, .null, .long 0, .long 0, .long 0, .long 0, .int 0, .int 0]) rfl rfl dX12_init_518 ?_
  refine ze_aload_n E dX12_init_521 0 rfl rfl ?_
  refine ze_iconst E dX12_init_522 (v := 3) rfl ?_
  refine ze_newaC E (by decide) (N := 3) rfl (by decide) zw_175 ⟨by decide, by decide⟩ (c2 := (26, 13946)) rfl (n2 := 155) rfl dX12_init_523 ?_
  refine ze_dup E dX12_init_525 rfl ?_
  refine ze_iconst E dX12_init_526 (v := 0) rfl ?_
  refine ze_bipush E dX12_init_527 (v := 97) rfl ?_
  refine ze_cast E 154 (by decide) rfl (by unfold vp_in; decide) (j := 0) rfl (x2 := 97) rfl rfl dX12_init_529 ?_
  refine ze_dup E dX12_init_530 rfl ?_
  refine ze_iconst E dX12_init_531 (v := 1) rfl ?_
  refine ze_bipush E dX12_init_532 (v := 108) rfl ?_
  refine ze_cast E 154 (by decide) rfl (by unfold vp_in; decide) (j := 1) rfl (x2 := 108) rfl rfl dX12_init_534 ?_
  refine ze_dup E dX12_init_535 rfl ?_
  refine ze_iconst E dX12_init_536 (v := 2) rfl ?_
  refine ze_bipush E dX12_init_537 (v := 108) rfl ?_
  refine ze_cast E 154 (by decide) rfl (by unfold vp_in; decide) (j := 2) rfl (x2 := 108) rfl rfl dX12_init_539 ?_
  refine ze_putF E 128 (by decide) rfl rfl zin12 36 (by decide) zw_1204 tyX12 tyX12_ok nmX12 rfl hin rfl rfl rfl (Nat.le_of_ble_eq_true rfl) (fs2 := [.ref (C.X.1 + 129), .ref (C.X.1 + 130), .ref (C.X.1 + 131), .ref (C.X.1 + 132), .ref (C.X.1 + 133), .ref (C.X.1 + 134), .ref (C.X.1 + 135), .ref (C.X.1 + 136), .ref (C.X.1 + 137), .ref (C.X.1 + 138), .int 3, .int 8, .int 20, .ref (C.X.1 + 139), .ref (C.X.1 + 140), .ref (C.X.1 + 141), .ref (C.X.1 + 142), .ref (C.X.1 + 143), .int 0, .int 0, .int 0, .int 0, .int 0, .int 0, .int 0, .int (-1), .ref (C.X.1 + 144), .ref (C.X.1 + 145), .ref (C.X.1 + 146), .ref (C.X.1 + 147), .ref (C.X.1 + 148), .ref (C.X.1 + 149), .ref (C.X.1 + 150), .ref (C.X.1 + 151), .ref (C.X.1 + 152), .ref (C.X.1 + 153), .ref (C.X.1 + 154), .null, .null, .null, .null, .null, .null, .null, .null, .null, .null, .null, .null, .null, .null, .null, .null, .null, .null, .null, .int 0, .null, .int 0, .int 0, .int 0, .null, .int 0, .long 0, .long 0, .int 0, .int 0, .int 0, .null, .null, .null, .null, .null, .int 0, .int 0, .int 0, .int 0, .int 0, .null, .long 0, .long 0, .long 0, .long 0, .int 0, .int 0]) rfl rfl dX12_init_540 ?_
  refine ze_aload_n E dX12_init_543 0 rfl rfl ?_
  refine ze_iconst E dX12_init_544 (v := 5) rfl ?_
  refine ze_newaC E (by decide) (N := 5) rfl (by decide) zw_175 ⟨by decide, by decide⟩ (c2 := (27, 13951)) rfl (n2 := 156) rfl dX12_init_545 ?_
  refine ze_dup E dX12_init_547 rfl ?_
  refine ze_iconst E dX12_init_548 (v := 0) rfl ?_
  refine ze_bipush E dX12_init_549 (v := 115) rfl ?_
  refine ze_cast E 155 (by decide) rfl (by unfold vp_in; decide) (j := 0) rfl (x2 := 115) rfl rfl dX12_init_551 ?_
  refine ze_dup E dX12_init_552 rfl ?_
  refine ze_iconst E dX12_init_553 (v := 1) rfl ?_
  refine ze_bipush E dX12_init_554 (v := 104) rfl ?_
  refine ze_cast E 155 (by decide) rfl (by unfold vp_in; decide) (j := 1) rfl (x2 := 104) rfl rfl dX12_init_556 ?_
  refine ze_dup E dX12_init_557 rfl ?_
  refine ze_iconst E dX12_init_558 (v := 2) rfl ?_
  refine ze_bipush E dX12_init_559 (v := 105) rfl ?_
  refine ze_cast E 155 (by decide) rfl (by unfold vp_in; decide) (j := 2) rfl (x2 := 105) rfl rfl dX12_init_561 ?_
  refine ze_dup E dX12_init_562 rfl ?_
  refine ze_iconst E dX12_init_563 (v := 3) rfl ?_
  refine ze_bipush E dX12_init_564 (v := 114) rfl ?_
  refine ze_cast E 155 (by decide) rfl (by unfold vp_in; decide) (j := 3) rfl (x2 := 114) rfl rfl dX12_init_566 ?_
  refine ze_dup E dX12_init_567 rfl ?_
  refine ze_iconst E dX12_init_568 (v := 4) rfl ?_
  refine ze_bipush E dX12_init_569 (v := 101) rfl ?_
  refine ze_cast E 155 (by decide) rfl (by unfold vp_in; decide) (j := 4) rfl (x2 := 101) rfl rfl dX12_init_571 ?_
  refine ze_putF E 128 (by decide) rfl rfl zin12 37 (by decide) zw_1205 tyX12 tyX12_ok nmX12 rfl hin rfl rfl rfl (Nat.le_of_ble_eq_true rfl) (fs2 := [.ref (C.X.1 + 129), .ref (C.X.1 + 130), .ref (C.X.1 + 131), .ref (C.X.1 + 132), .ref (C.X.1 + 133), .ref (C.X.1 + 134), .ref (C.X.1 + 135), .ref (C.X.1 + 136), .ref (C.X.1 + 137), .ref (C.X.1 + 138), .int 3, .int 8, .int 20, .ref (C.X.1 + 139), .ref (C.X.1 + 140), .ref (C.X.1 + 141), .ref (C.X.1 + 142), .ref (C.X.1 + 143), .int 0, .int 0, .int 0, .int 0, .int 0, .int 0, .int 0, .int (-1), .ref (C.X.1 + 144), .ref (C.X.1 + 145), .ref (C.X.1 + 146), .ref (C.X.1 + 147), .ref (C.X.1 + 148), .ref (C.X.1 + 149), .ref (C.X.1 + 150), .ref (C.X.1 + 151), .ref (C.X.1 + 152), .ref (C.X.1 + 153), .ref (C.X.1 + 154), .ref (C.X.1 + 155), .null, .null, .null, .null, .null, .null, .null, .null, .null, .null, .null, .null, .null, .null, .null, .null, .null, .null, .int 0, .null, .int 0, .int 0, .int 0, .null, .int 0, .long 0, .long 0, .int 0, .int 0, .int 0, .null, .null, .null, .null, .null, .int 0, .int 0, .int 0, .int 0, .int 0, .null, .long 0, .long 0, .long 0, .long 0, .int 0, .int 0]) rfl rfl dX12_init_572 ?_
  refine ze_aload_n E dX12_init_575 0 rfl rfl ?_
  refine ze_iconst E dX12_init_576 (v := 5) rfl ?_
  refine ze_newaC E (by decide) (N := 5) rfl (by decide) zw_175 ⟨by decide, by decide⟩ (c2 := (28, 13956)) rfl (n2 := 157) rfl dX12_init_577 ?_
  refine ze_dup E dX12_init_579 rfl ?_
  refine ze_iconst E dX12_init_580 (v := 0) rfl ?_
  refine ze_bipush E dX12_init_581 (v := 112) rfl ?_
  refine ze_cast E 156 (by decide) rfl (by unfold vp_in; decide) (j := 0) rfl (x2 := 112) rfl rfl dX12_init_583 ?_
  refine ze_dup E dX12_init_584 rfl ?_
  refine ze_iconst E dX12_init_585 (v := 1) rfl ?_
  refine ze_bipush E dX12_init_586 (v := 101) rfl ?_
  refine ze_cast E 156 (by decide) rfl (by unfold vp_in; decide) (j := 1) rfl (x2 := 101) rfl rfl dX12_init_588 ?_
  refine ze_dup E dX12_init_589 rfl ?_
  refine ze_iconst E dX12_init_590 (v := 2) rfl ?_
  refine ze_bipush E dX12_init_591 (v := 110) rfl ?_
  refine ze_cast E 156 (by decide) rfl (by unfold vp_in; decide) (j := 2) rfl (x2 := 110) rfl rfl dX12_init_593 ?_
  refine ze_dup E dX12_init_594 rfl ?_
  refine ze_iconst E dX12_init_595 (v := 3) rfl ?_
  refine ze_bipush E dX12_init_596 (v := 99) rfl ?_
  refine ze_cast E 156 (by decide) rfl (by unfold vp_in; decide) (j := 3) rfl (x2 := 99) rfl rfl dX12_init_598 ?_
  refine ze_dup E dX12_init_599 rfl ?_
  refine ze_iconst E dX12_init_600 (v := 4) rfl ?_
  refine ze_bipush E dX12_init_601 (v := 101) rfl ?_
  refine ze_cast E 156 (by decide) rfl (by unfold vp_in; decide) (j := 4) rfl (x2 := 101) rfl rfl dX12_init_603 ?_
  refine ze_putF E 128 (by decide) rfl rfl zin12 38 (by decide) zw_1206 tyX12 tyX12_ok nmX12 rfl hin rfl rfl rfl (Nat.le_of_ble_eq_true rfl) (fs2 := [.ref (C.X.1 + 129), .ref (C.X.1 + 130), .ref (C.X.1 + 131), .ref (C.X.1 + 132), .ref (C.X.1 + 133), .ref (C.X.1 + 134), .ref (C.X.1 + 135), .ref (C.X.1 + 136), .ref (C.X.1 + 137), .ref (C.X.1 + 138), .int 3, .int 8, .int 20, .ref (C.X.1 + 139), .ref (C.X.1 + 140), .ref (C.X.1 + 141), .ref (C.X.1 + 142), .ref (C.X.1 + 143), .int 0, .int 0, .int 0, .int 0, .int 0, .int 0, .int 0, .int (-1), .ref (C.X.1 + 144), .ref (C.X.1 + 145), .ref (C.X.1 + 146), .ref (C.X.1 + 147), .ref (C.X.1 + 148), .ref (C.X.1 + 149), .ref (C.X.1 + 150), .ref (C.X.1 + 151), .ref (C.X.1 + 152), .ref (C.X.1 + 153), .ref (C.X.1 + 154), .ref (C.X.1 + 155), .ref (C.X.1 + 156), .null, .null, .null, .null, .null, .null, .null, .null, .null, .null, .null, .null, .null, .null, .null, .null, .null, .int 0, .null, .int 0, .int 0, .int 0, .null, .int 0, .long 0, .long 0, .int 0, .int 0, .int 0, .null, .null, .null, .null, .null, .int 0, .int 0, .int 0, .int 0, .int 0, .null, .long 0, .long 0, .long 0, .long 0, .int 0, .int 0]) rfl rfl dX12_init_604 ?_
  refine ze_aload_n E dX12_init_607 0 rfl rfl ?_
  refine ze_bipush E dX12_init_608 (v := 9) rfl ?_
  refine ze_newaC E (by decide) (N := 9) rfl (by decide) zw_175 ⟨by decide, by decide⟩ (c2 := (29, 13965)) rfl (n2 := 158) rfl dX12_init_610 ?_
  refine ze_dup E dX12_init_612 rfl ?_
  refine ze_iconst E dX12_init_613 (v := 0) rfl ?_
  refine ze_bipush E dX12_init_614 (v := 115) rfl ?_
  refine ze_cast E 157 (by decide) rfl (by unfold vp_in; decide) (j := 0) rfl (x2 := 115) rfl rfl dX12_init_616 ?_
  refine ze_dup E dX12_init_617 rfl ?_
  refine ze_iconst E dX12_init_618 (v := 1) rfl ?_
  refine ze_bipush E dX12_init_619 (v := 104) rfl ?_
  refine ze_cast E 157 (by decide) rfl (by unfold vp_in; decide) (j := 1) rfl (x2 := 104) rfl rfl dX12_init_621 ?_
  refine ze_dup E dX12_init_622 rfl ?_
  refine ze_iconst E dX12_init_623 (v := 2) rfl ?_
  refine ze_bipush E dX12_init_624 (v := 105) rfl ?_
  refine ze_cast E 157 (by decide) rfl (by unfold vp_in; decide) (j := 2) rfl (x2 := 105) rfl rfl dX12_init_626 ?_
  refine ze_dup E dX12_init_627 rfl ?_
  refine ze_iconst E dX12_init_628 (v := 3) rfl ?_
  refine ze_bipush E dX12_init_629 (v := 108) rfl ?_
  refine ze_cast E 157 (by decide) rfl (by unfold vp_in; decide) (j := 3) rfl (x2 := 108) rfl rfl dX12_init_631 ?_
  refine ze_dup E dX12_init_632 rfl ?_
  refine ze_iconst E dX12_init_633 (v := 4) rfl ?_
  refine ze_bipush E dX12_init_634 (v := 108) rfl ?_
  refine ze_cast E 157 (by decide) rfl (by unfold vp_in; decide) (j := 4) rfl (x2 := 108) rfl rfl dX12_init_636 ?_
  refine ze_dup E dX12_init_637 rfl ?_
  refine ze_iconst E dX12_init_638 (v := 5) rfl ?_
  refine ze_bipush E dX12_init_639 (v := 105) rfl ?_
  refine ze_cast E 157 (by decide) rfl (by unfold vp_in; decide) (j := 5) rfl (x2 := 105) rfl rfl dX12_init_641 ?_
  refine ze_dup E dX12_init_642 rfl ?_
  refine ze_bipush E dX12_init_643 (v := 6) rfl ?_
  refine ze_bipush E dX12_init_645 (v := 110) rfl ?_
  refine ze_cast E 157 (by decide) rfl (by unfold vp_in; decide) (j := 6) rfl (x2 := 110) rfl rfl dX12_init_647 ?_
  refine ze_dup E dX12_init_648 rfl ?_
  refine ze_bipush E dX12_init_649 (v := 7) rfl ?_
  refine ze_bipush E dX12_init_651 (v := 103) rfl ?_
  refine ze_cast E 157 (by decide) rfl (by unfold vp_in; decide) (j := 7) rfl (x2 := 103) rfl rfl dX12_init_653 ?_
  refine ze_dup E dX12_init_654 rfl ?_
  refine ze_bipush E dX12_init_655 (v := 8) rfl ?_
  refine ze_bipush E dX12_init_657 (v := 115) rfl ?_
  refine ze_cast E 157 (by decide) rfl (by unfold vp_in; decide) (j := 8) rfl (x2 := 115) rfl rfl dX12_init_659 ?_
  refine ze_putF E 128 (by decide) rfl rfl zin12 39 (by decide) zw_1207 tyX12 tyX12_ok nmX12 rfl hin rfl rfl rfl (Nat.le_of_ble_eq_true rfl) (fs2 := [.ref (C.X.1 + 129), .ref (C.X.1 + 130), .ref (C.X.1 + 131), .ref (C.X.1 + 132), .ref (C.X.1 + 133), .ref (C.X.1 + 134), .ref (C.X.1 + 135), .ref (C.X.1 + 136), .ref (C.X.1 + 137), .ref (C.X.1 + 138), .int 3, .int 8, .int 20, .ref (C.X.1 + 139), .ref (C.X.1 + 140), .ref (C.X.1 + 141), .ref (C.X.1 + 142), .ref (C.X.1 + 143), .int 0, .int 0, .int 0, .int 0, .int 0, .int 0, .int 0, .int (-1), .ref (C.X.1 + 144), .ref (C.X.1 + 145), .ref (C.X.1 + 146), .ref (C.X.1 + 147), .ref (C.X.1 + 148), .ref (C.X.1 + 149), .ref (C.X.1 + 150), .ref (C.X.1 + 151), .ref (C.X.1 + 152), .ref (C.X.1 + 153), .ref (C.X.1 + 154), .ref (C.X.1 + 155), .ref (C.X.1 + 156), .ref (C.X.1 + 157), .null, .null, .null, .null, .null, .null, .null, .null, .null, .null, .null, .null, .null, .null, .null, .null, .int 0, .null, .int 0, .int 0, .int 0, .null, .int 0, .long 0, .long 0, .int 0, .int 0, .int 0, .null, .null, .null, .null, .null, .int 0, .int 0, .int 0, .int 0, .int 0, .null, .long 0, .long 0, .long 0, .long 0, .int 0, .int 0]) rfl rfl dX12_init_660 ?_
  refine ze_aload_n E dX12_init_663 0 rfl rfl ?_
  refine ze_bipush E dX12_init_664 (v := 6) rfl ?_
  refine ze_newaC E (by decide) (N := 6) rfl (by decide) zw_175 ⟨by decide, by decide⟩ (c2 := (30, 13971)) rfl (n2 := 159) rfl dX12_init_666 ?_
  refine ze_dup E dX12_init_668 rfl ?_
  refine ze_iconst E dX12_init_669 (v := 0) rfl ?_
  refine ze_bipush E dX12_init_670 (v := 112) rfl ?_
  refine ze_cast E 158 (by decide) rfl (by unfold vp_in; decide) (j := 0) rfl (x2 := 112) rfl rfl dX12_init_672 ?_
  refine ze_dup E dX12_init_673 rfl ?_
  refine ze_iconst E dX12_init_674 (v := 1) rfl ?_
  refine ze_bipush E dX12_init_675 (v := 111) rfl ?_
  refine ze_cast E 158 (by decide) rfl (by unfold vp_in; decide) (j := 1) rfl (x2 := 111) rfl rfl dX12_init_677 ?_
  refine ze_dup E dX12_init_678 rfl ?_
  refine ze_iconst E dX12_init_679 (v := 2) rfl ?_
  refine ze_bipush E dX12_init_680 (v := 117) rfl ?_
  refine ze_cast E 158 (by decide) rfl (by unfold vp_in; decide) (j := 2) rfl (x2 := 117) rfl rfl dX12_init_682 ?_
  refine ze_dup E dX12_init_683 rfl ?_
  refine ze_iconst E dX12_init_684 (v := 3) rfl ?_
  refine ze_bipush E dX12_init_685 (v := 110) rfl ?_
  refine ze_cast E 158 (by decide) rfl (by unfold vp_in; decide) (j := 3) rfl (x2 := 110) rfl rfl dX12_init_687 ?_
  refine ze_dup E dX12_init_688 rfl ?_
  refine ze_iconst E dX12_init_689 (v := 4) rfl ?_
  refine ze_bipush E dX12_init_690 (v := 100) rfl ?_
  refine ze_cast E 158 (by decide) rfl (by unfold vp_in; decide) (j := 4) rfl (x2 := 100) rfl rfl dX12_init_692 ?_
  refine ze_dup E dX12_init_693 rfl ?_
  refine ze_iconst E dX12_init_694 (v := 5) rfl ?_
  refine ze_bipush E dX12_init_695 (v := 115) rfl ?_
  refine ze_cast E 158 (by decide) rfl (by unfold vp_in; decide) (j := 5) rfl (x2 := 115) rfl rfl dX12_init_697 ?_
  refine ze_putF E 128 (by decide) rfl rfl zin12 40 (by decide) zw_1208 tyX12 tyX12_ok nmX12 rfl hin rfl rfl rfl (Nat.le_of_ble_eq_true rfl) (fs2 := [.ref (C.X.1 + 129), .ref (C.X.1 + 130), .ref (C.X.1 + 131), .ref (C.X.1 + 132), .ref (C.X.1 + 133), .ref (C.X.1 + 134), .ref (C.X.1 + 135), .ref (C.X.1 + 136), .ref (C.X.1 + 137), .ref (C.X.1 + 138), .int 3, .int 8, .int 20, .ref (C.X.1 + 139), .ref (C.X.1 + 140), .ref (C.X.1 + 141), .ref (C.X.1 + 142), .ref (C.X.1 + 143), .int 0, .int 0, .int 0, .int 0, .int 0, .int 0, .int 0, .int (-1), .ref (C.X.1 + 144), .ref (C.X.1 + 145), .ref (C.X.1 + 146), .ref (C.X.1 + 147), .ref (C.X.1 + 148), .ref (C.X.1 + 149), .ref (C.X.1 + 150), .ref (C.X.1 + 151), .ref (C.X.1 + 152), .ref (C.X.1 + 153), .ref (C.X.1 + 154), .ref (C.X.1 + 155), .ref (C.X.1 + 156), .ref (C.X.1 + 157), .ref (C.X.1 + 158), .null, .null, .null, .null, .null, .null, .null, .null, .null, .null, .null, .null, .null, .null, .null, .int 0, .null, .int 0, .int 0, .int 0, .null, .int 0, .long 0, .long 0, .int 0, .int 0, .int 0, .null, .null, .null, .null, .null, .int 0, .int 0, .int 0, .int 0, .int 0, .null, .long 0, .long 0, .long 0, .long 0, .int 0, .int 0]) rfl rfl dX12_init_698 ?_
  refine ze_aload_n E dX12_init_701 0 rfl rfl ?_
  refine ze_iconst E dX12_init_702 (v := 4) rfl ?_
  refine ze_newaC E (by decide) (N := 4) rfl (by decide) zw_175 ⟨by decide, by decide⟩ (c2 := (31, 13975)) rfl (n2 := 160) rfl dX12_init_703 ?_
  refine ze_dup E dX12_init_705 rfl ?_
  refine ze_iconst E dX12_init_706 (v := 0) rfl ?_
  refine ze_bipush E dX12_init_707 (v := 116) rfl ?_
  refine ze_cast E 159 (by decide) rfl (by unfold vp_in; decide) (j := 0) rfl (x2 := 116) rfl rfl dX12_init_709 ?_
  refine ze_dup E dX12_init_710 rfl ?_
  refine ze_iconst E dX12_init_711 (v := 1) rfl ?_
  refine ze_bipush E dX12_init_712 (v := 101) rfl ?_
  refine ze_cast E 159 (by decide) rfl (by unfold vp_in; decide) (j := 1) rfl (x2 := 101) rfl rfl dX12_init_714 ?_
  refine ze_dup E dX12_init_715 rfl ?_
  refine ze_iconst E dX12_init_716 (v := 2) rfl ?_
  refine ze_bipush E dX12_init_717 (v := 114) rfl ?_
  refine ze_cast E 159 (by decide) rfl (by unfold vp_in; decide) (j := 2) rfl (x2 := 114) rfl rfl dX12_init_719 ?_
  refine ze_dup E dX12_init_720 rfl ?_
  refine ze_iconst E dX12_init_721 (v := 3) rfl ?_
  refine ze_bipush E dX12_init_722 (v := 109) rfl ?_
  refine ze_cast E 159 (by decide) rfl (by unfold vp_in; decide) (j := 3) rfl (x2 := 109) rfl rfl dX12_init_724 ?_
  refine ze_putF E 128 (by decide) rfl rfl zin12 41 (by decide) zw_1209 tyX12 tyX12_ok nmX12 rfl hin rfl rfl rfl (Nat.le_of_ble_eq_true rfl) (fs2 := [.ref (C.X.1 + 129), .ref (C.X.1 + 130), .ref (C.X.1 + 131), .ref (C.X.1 + 132), .ref (C.X.1 + 133), .ref (C.X.1 + 134), .ref (C.X.1 + 135), .ref (C.X.1 + 136), .ref (C.X.1 + 137), .ref (C.X.1 + 138), .int 3, .int 8, .int 20, .ref (C.X.1 + 139), .ref (C.X.1 + 140), .ref (C.X.1 + 141), .ref (C.X.1 + 142), .ref (C.X.1 + 143), .int 0, .int 0, .int 0, .int 0, .int 0, .int 0, .int 0, .int (-1), .ref (C.X.1 + 144), .ref (C.X.1 + 145), .ref (C.X.1 + 146), .ref (C.X.1 + 147), .ref (C.X.1 + 148), .ref (C.X.1 + 149), .ref (C.X.1 + 150), .ref (C.X.1 + 151), .ref (C.X.1 + 152), .ref (C.X.1 + 153), .ref (C.X.1 + 154), .ref (C.X.1 + 155), .ref (C.X.1 + 156), .ref (C.X.1 + 157), .ref (C.X.1 + 158), .ref (C.X.1 + 159), .null, .null, .null, .null, .null, .null, .null, .null, .null, .null, .null, .null, .null, .null, .int 0, .null, .int 0, .int 0, .int 0, .null, .int 0, .long 0, .long 0, .int 0, .int 0, .int 0, .null, .null, .null, .null, .null, .int 0, .int 0, .int 0, .int 0, .int 0, .null, .long 0, .long 0, .long 0, .long 0, .int 0, .int 0]) rfl rfl dX12_init_725 ?_
  refine ze_aload_n E dX12_init_728 0 rfl rfl ?_
  refine ze_iconst E dX12_init_729 (v := 4) rfl ?_
  refine ze_newaC E (by decide) (N := 4) rfl (by decide) zw_175 ⟨by decide, by decide⟩ (c2 := (32, 13979)) rfl (n2 := 161) rfl dX12_init_730 ?_
  refine ze_dup E dX12_init_732 rfl ?_
  refine ze_iconst E dX12_init_733 (v := 0) rfl ?_
  refine ze_bipush E dX12_init_734 (v := 121) rfl ?_
  refine ze_cast E 160 (by decide) rfl (by unfold vp_in; decide) (j := 0) rfl (x2 := 121) rfl rfl dX12_init_736 ?_
  refine ze_dup E dX12_init_737 rfl ?_
  refine ze_iconst E dX12_init_738 (v := 1) rfl ?_
  refine ze_bipush E dX12_init_739 (v := 101) rfl ?_
  refine ze_cast E 160 (by decide) rfl (by unfold vp_in; decide) (j := 1) rfl (x2 := 101) rfl rfl dX12_init_741 ?_
  refine ze_dup E dX12_init_742 rfl ?_
  refine ze_iconst E dX12_init_743 (v := 2) rfl ?_
  refine ze_bipush E dX12_init_744 (v := 97) rfl ?_
  refine ze_cast E 160 (by decide) rfl (by unfold vp_in; decide) (j := 2) rfl (x2 := 97) rfl rfl dX12_init_746 ?_
  refine ze_dup E dX12_init_747 rfl ?_
  refine ze_iconst E dX12_init_748 (v := 3) rfl ?_
  refine ze_bipush E dX12_init_749 (v := 114) rfl ?_
  refine ze_cast E 160 (by decide) rfl (by unfold vp_in; decide) (j := 3) rfl (x2 := 114) rfl rfl dX12_init_751 ?_
  refine ze_putF E 128 (by decide) rfl rfl zin12 42 (by decide) zw_1210 tyX12 tyX12_ok nmX12 rfl hin rfl rfl rfl (Nat.le_of_ble_eq_true rfl) (fs2 := [.ref (C.X.1 + 129), .ref (C.X.1 + 130), .ref (C.X.1 + 131), .ref (C.X.1 + 132), .ref (C.X.1 + 133), .ref (C.X.1 + 134), .ref (C.X.1 + 135), .ref (C.X.1 + 136), .ref (C.X.1 + 137), .ref (C.X.1 + 138), .int 3, .int 8, .int 20, .ref (C.X.1 + 139), .ref (C.X.1 + 140), .ref (C.X.1 + 141), .ref (C.X.1 + 142), .ref (C.X.1 + 143), .int 0, .int 0, .int 0, .int 0, .int 0, .int 0, .int 0, .int (-1), .ref (C.X.1 + 144), .ref (C.X.1 + 145), .ref (C.X.1 + 146), .ref (C.X.1 + 147), .ref (C.X.1 + 148), .ref (C.X.1 + 149), .ref (C.X.1 + 150), .ref (C.X.1 + 151), .ref (C.X.1 + 152), .ref (C.X.1 + 153), .ref (C.X.1 + 154), .ref (C.X.1 + 155), .ref (C.X.1 + 156), .ref (C.X.1 + 157), .ref (C.X.1 + 158), .ref (C.X.1 + 159), .ref (C.X.1 + 160), .null, .null, .null, .null, .null, .null, .null, .null, .null, .null, .null, .null, .null, .int 0, .null, .int 0, .int 0, .int 0, .null, .int 0, .long 0, .long 0, .int 0, .int 0, .int 0, .null, .null, .null, .null, .null, .int 0, .int 0, .int 0, .int 0, .int 0, .null, .long 0, .long 0, .long 0, .long 0, .int 0, .int 0]) rfl rfl dX12_init_752 ?_
  refine ze_aload_n E dX12_init_755 0 rfl rfl ?_
  refine ze_iconst E dX12_init_756 (v := 4) rfl ?_
  refine ze_newaC E (by decide) (N := 4) rfl (by decide) zw_175 ⟨by decide, by decide⟩ (c2 := (33, 13983)) rfl (n2 := 162) rfl dX12_init_757 ?_
  refine ze_dup E dX12_init_759 rfl ?_
  refine ze_iconst E dX12_init_760 (v := 0) rfl ?_
  refine ze_bipush E dX12_init_761 (v := 100) rfl ?_
  refine ze_cast E 161 (by decide) rfl (by unfold vp_in; decide) (j := 0) rfl (x2 := 100) rfl rfl dX12_init_763 ?_
  refine ze_dup E dX12_init_764 rfl ?_
  refine ze_iconst E dX12_init_765 (v := 1) rfl ?_
  refine ze_bipush E dX12_init_766 (v := 101) rfl ?_
  refine ze_cast E 161 (by decide) rfl (by unfold vp_in; decide) (j := 1) rfl (x2 := 101) rfl rfl dX12_init_768 ?_
  refine ze_dup E dX12_init_769 rfl ?_
  refine ze_iconst E dX12_init_770 (v := 2) rfl ?_
  refine ze_bipush E dX12_init_771 (v := 98) rfl ?_
  refine ze_cast E 161 (by decide) rfl (by unfold vp_in; decide) (j := 2) rfl (x2 := 98) rfl rfl dX12_init_773 ?_
  refine ze_dup E dX12_init_774 rfl ?_
  refine ze_iconst E dX12_init_775 (v := 3) rfl ?_
  refine ze_bipush E dX12_init_776 (v := 116) rfl ?_
  refine ze_cast E 161 (by decide) rfl (by unfold vp_in; decide) (j := 3) rfl (x2 := 116) rfl rfl dX12_init_778 ?_
  refine ze_putF E 128 (by decide) rfl rfl zin12 43 (by decide) zw_1211 tyX12 tyX12_ok nmX12 rfl hin rfl rfl rfl (Nat.le_of_ble_eq_true rfl) (fs2 := [.ref (C.X.1 + 129), .ref (C.X.1 + 130), .ref (C.X.1 + 131), .ref (C.X.1 + 132), .ref (C.X.1 + 133), .ref (C.X.1 + 134), .ref (C.X.1 + 135), .ref (C.X.1 + 136), .ref (C.X.1 + 137), .ref (C.X.1 + 138), .int 3, .int 8, .int 20, .ref (C.X.1 + 139), .ref (C.X.1 + 140), .ref (C.X.1 + 141), .ref (C.X.1 + 142), .ref (C.X.1 + 143), .int 0, .int 0, .int 0, .int 0, .int 0, .int 0, .int 0, .int (-1), .ref (C.X.1 + 144), .ref (C.X.1 + 145), .ref (C.X.1 + 146), .ref (C.X.1 + 147), .ref (C.X.1 + 148), .ref (C.X.1 + 149), .ref (C.X.1 + 150), .ref (C.X.1 + 151), .ref (C.X.1 + 152), .ref (C.X.1 + 153), .ref (C.X.1 + 154), .ref (C.X.1 + 155), .ref (C.X.1 + 156), .ref (C.X.1 + 157), .ref (C.X.1 + 158), .ref (C.X.1 + 159), .ref (C.X.1 + 160), .ref (C.X.1 + 161), .null, .null, .null, .null, .null, .null, .null, .null, .null, .null, .null, .null, .int 0, .null, .int 0, .int 0, .int 0, .null, .int 0, .long 0, .long 0, .int 0, .int 0, .int 0, .null, .null, .null, .null, .null, .int 0, .int 0, .int 0, .int 0, .int 0, .null, .long 0, .long 0, .long 0, .long 0, .int 0, .int 0]) rfl rfl dX12_init_779 ?_
  refine ze_aload_n E dX12_init_782 0 rfl rfl ?_
  refine ze_iconst E dX12_init_783 (v := 4) rfl ?_
  refine ze_newaC E (by decide) (N := 4) rfl (by decide) zw_175 ⟨by decide, by decide⟩ (c2 := (34, 13987)) rfl (n2 := 163) rfl dX12_init_784 ?_
  refine ze_dup E dX12_init_786 rfl ?_
  refine ze_iconst E dX12_init_787 (v := 0) rfl ?_
  refine ze_bipush E dX12_init_788 (v := 112) rfl ?_
  refine ze_cast E 162 (by decide) rfl (by unfold vp_in; decide) (j := 0) rfl (x2 := 112) rfl rfl dX12_init_790 ?_
  refine ze_dup E dX12_init_791 rfl ?_
  refine ze_iconst E dX12_init_792 (v := 1) rfl ?_
  refine ze_bipush E dX12_init_793 (v := 97) rfl ?_
  refine ze_cast E 162 (by decide) rfl (by unfold vp_in; decide) (j := 1) rfl (x2 := 97) rfl rfl dX12_init_795 ?_
  refine ze_dup E dX12_init_796 rfl ?_
  refine ze_iconst E dX12_init_797 (v := 2) rfl ?_
  refine ze_bipush E dX12_init_798 (v := 105) rfl ?_
  refine ze_cast E 162 (by decide) rfl (by unfold vp_in; decide) (j := 2) rfl (x2 := 105) rfl rfl dX12_init_800 ?_
  refine ze_dup E dX12_init_801 rfl ?_
  refine ze_iconst E dX12_init_802 (v := 3) rfl ?_
  refine ze_bipush E dX12_init_803 (v := 100) rfl ?_
  refine ze_cast E 162 (by decide) rfl (by unfold vp_in; decide) (j := 3) rfl (x2 := 100) rfl rfl dX12_init_805 ?_
  refine ze_putF E 128 (by decide) rfl rfl zin12 44 (by decide) zw_1212 tyX12 tyX12_ok nmX12 rfl hin rfl rfl rfl (Nat.le_of_ble_eq_true rfl) (fs2 := [.ref (C.X.1 + 129), .ref (C.X.1 + 130), .ref (C.X.1 + 131), .ref (C.X.1 + 132), .ref (C.X.1 + 133), .ref (C.X.1 + 134), .ref (C.X.1 + 135), .ref (C.X.1 + 136), .ref (C.X.1 + 137), .ref (C.X.1 + 138), .int 3, .int 8, .int 20, .ref (C.X.1 + 139), .ref (C.X.1 + 140), .ref (C.X.1 + 141), .ref (C.X.1 + 142), .ref (C.X.1 + 143), .int 0, .int 0, .int 0, .int 0, .int 0, .int 0, .int 0, .int (-1), .ref (C.X.1 + 144), .ref (C.X.1 + 145), .ref (C.X.1 + 146), .ref (C.X.1 + 147), .ref (C.X.1 + 148), .ref (C.X.1 + 149), .ref (C.X.1 + 150), .ref (C.X.1 + 151), .ref (C.X.1 + 152), .ref (C.X.1 + 153), .ref (C.X.1 + 154), .ref (C.X.1 + 155), .ref (C.X.1 + 156), .ref (C.X.1 + 157), .ref (C.X.1 + 158), .ref (C.X.1 + 159), .ref (C.X.1 + 160), .ref (C.X.1 + 161), .ref (C.X.1 + 162), .null, .null, .null, .null, .null, .null, .null, .null, .null, .null, .null, .int 0, .null, .int 0, .int 0, .int 0, .null, .int 0, .long 0, .long 0, .int 0, .int 0, .int 0, .null, .null, .null, .null, .null, .int 0, .int 0, .int 0, .int 0, .int 0, .null, .long 0, .long 0, .long 0, .long 0, .int 0, .int 0]) rfl rfl dX12_init_806 ?_
  refine ze_aload_n E dX12_init_809 0 rfl rfl ?_
  refine ze_iconst E dX12_init_810 (v := 3) rfl ?_
  refine ze_newaC E (by decide) (N := 3) rfl (by decide) zw_175 ⟨by decide, by decide⟩ (c2 := (35, 13990)) rfl (n2 := 164) rfl dX12_init_811 ?_
  refine ze_dup E dX12_init_813 rfl ?_
  refine ze_iconst E dX12_init_814 (v := 0) rfl ?_
  refine ze_bipush E dX12_init_815 (v := 109) rfl ?_
  refine ze_cast E 163 (by decide) rfl (by unfold vp_in; decide) (j := 0) rfl (x2 := 109) rfl rfl dX12_init_817 ?_
  refine ze_dup E dX12_init_818 rfl ?_
  refine ze_iconst E dX12_init_819 (v := 1) rfl ?_
  refine ze_bipush E dX12_init_820 (v := 105) rfl ?_
  refine ze_cast E 163 (by decide) rfl (by unfold vp_in; decide) (j := 1) rfl (x2 := 105) rfl rfl dX12_init_822 ?_
  refine ze_dup E dX12_init_823 rfl ?_
  refine ze_iconst E dX12_init_824 (v := 2) rfl ?_
  refine ze_bipush E dX12_init_825 (v := 110) rfl ?_
  refine ze_cast E 163 (by decide) rfl (by unfold vp_in; decide) (j := 2) rfl (x2 := 110) rfl rfl dX12_init_827 ?_
  refine ze_putF E 128 (by decide) rfl rfl zin12 45 (by decide) zw_1213 tyX12 tyX12_ok nmX12 rfl hin rfl rfl rfl (Nat.le_of_ble_eq_true rfl) (fs2 := [.ref (C.X.1 + 129), .ref (C.X.1 + 130), .ref (C.X.1 + 131), .ref (C.X.1 + 132), .ref (C.X.1 + 133), .ref (C.X.1 + 134), .ref (C.X.1 + 135), .ref (C.X.1 + 136), .ref (C.X.1 + 137), .ref (C.X.1 + 138), .int 3, .int 8, .int 20, .ref (C.X.1 + 139), .ref (C.X.1 + 140), .ref (C.X.1 + 141), .ref (C.X.1 + 142), .ref (C.X.1 + 143), .int 0, .int 0, .int 0, .int 0, .int 0, .int 0, .int 0, .int (-1), .ref (C.X.1 + 144), .ref (C.X.1 + 145), .ref (C.X.1 + 146), .ref (C.X.1 + 147), .ref (C.X.1 + 148), .ref (C.X.1 + 149), .ref (C.X.1 + 150), .ref (C.X.1 + 151), .ref (C.X.1 + 152), .ref (C.X.1 + 153), .ref (C.X.1 + 154), .ref (C.X.1 + 155), .ref (C.X.1 + 156), .ref (C.X.1 + 157), .ref (C.X.1 + 158), .ref (C.X.1 + 159), .ref (C.X.1 + 160), .ref (C.X.1 + 161), .ref (C.X.1 + 162), .ref (C.X.1 + 163), .null, .null, .null, .null, .null, .null, .null, .null, .null, .null, .int 0, .null, .int 0, .int 0, .int 0, .null, .int 0, .long 0, .long 0, .int 0, .int 0, .int 0, .null, .null, .null, .null, .null, .int 0, .int 0, .int 0, .int 0, .int 0, .null, .long 0, .long 0, .long 0, .long 0, .int 0, .int 0]) rfl rfl dX12_init_828 ?_
  refine ze_aload_n E dX12_init_831 0 rfl rfl ?_
  refine ze_iconst E dX12_init_832 (v := 3) rfl ?_
  refine ze_newaC E (by decide) (N := 3) rfl (by decide) zw_175 ⟨by decide, by decide⟩ (c2 := (36, 13993)) rfl (n2 := 165) rfl dX12_init_833 ?_
  refine ze_dup E dX12_init_835 rfl ?_
  refine ze_iconst E dX12_init_836 (v := 0) rfl ?_
  refine ze_bipush E dX12_init_837 (v := 109) rfl ?_
  refine ze_cast E 164 (by decide) rfl (by unfold vp_in; decide) (j := 0) rfl (x2 := 109) rfl rfl dX12_init_839 ?_
  refine ze_dup E dX12_init_840 rfl ?_
  refine ze_iconst E dX12_init_841 (v := 1) rfl ?_
  refine ze_bipush E dX12_init_842 (v := 97) rfl ?_
  refine ze_cast E 164 (by decide) rfl (by unfold vp_in; decide) (j := 1) rfl (x2 := 97) rfl rfl dX12_init_844 ?_
  refine ze_dup E dX12_init_845 rfl ?_
  refine ze_iconst E dX12_init_846 (v := 2) rfl ?_
  refine ze_bipush E dX12_init_847 (v := 120) rfl ?_
  refine ze_cast E 164 (by decide) rfl (by unfold vp_in; decide) (j := 2) rfl (x2 := 120) rfl rfl dX12_init_849 ?_
  refine ze_putF E 128 (by decide) rfl rfl zin12 46 (by decide) zw_1214 tyX12 tyX12_ok nmX12 rfl hin rfl rfl rfl (Nat.le_of_ble_eq_true rfl) (fs2 := [.ref (C.X.1 + 129), .ref (C.X.1 + 130), .ref (C.X.1 + 131), .ref (C.X.1 + 132), .ref (C.X.1 + 133), .ref (C.X.1 + 134), .ref (C.X.1 + 135), .ref (C.X.1 + 136), .ref (C.X.1 + 137), .ref (C.X.1 + 138), .int 3, .int 8, .int 20, .ref (C.X.1 + 139), .ref (C.X.1 + 140), .ref (C.X.1 + 141), .ref (C.X.1 + 142), .ref (C.X.1 + 143), .int 0, .int 0, .int 0, .int 0, .int 0, .int 0, .int 0, .int (-1), .ref (C.X.1 + 144), .ref (C.X.1 + 145), .ref (C.X.1 + 146), .ref (C.X.1 + 147), .ref (C.X.1 + 148), .ref (C.X.1 + 149), .ref (C.X.1 + 150), .ref (C.X.1 + 151), .ref (C.X.1 + 152), .ref (C.X.1 + 153), .ref (C.X.1 + 154), .ref (C.X.1 + 155), .ref (C.X.1 + 156), .ref (C.X.1 + 157), .ref (C.X.1 + 158), .ref (C.X.1 + 159), .ref (C.X.1 + 160), .ref (C.X.1 + 161), .ref (C.X.1 + 162), .ref (C.X.1 + 163), .ref (C.X.1 + 164), .null, .null, .null, .null, .null, .null, .null, .null, .null, .int 0, .null, .int 0, .int 0, .int 0, .null, .int 0, .long 0, .long 0, .int 0, .int 0, .int 0, .null, .null, .null, .null, .null, .int 0, .int 0, .int 0, .int 0, .int 0, .null, .long 0, .long 0, .long 0, .long 0, .int 0, .int 0]) rfl rfl dX12_init_850 ?_
  refine ze_aload_n E dX12_init_853 0 rfl rfl ?_
  refine ze_sipush E dX12_init_854 (v := 201) rfl ?_
  refine ze_newaI E (by decide) (N := 201) rfl (by decide) zw_45 ⟨by decide, by decide⟩ (c2 := (37, 14194)) rfl (n2 := 166) rfl dX12_init_857 ?_
  refine ze_putF E 128 (by decide) rfl rfl zin12 47 (by decide) zw_1215 tyX12 tyX12_ok nmX12 rfl hin rfl rfl rfl (Nat.le_of_ble_eq_true rfl) (fs2 := [.ref (C.X.1 + 129), .ref (C.X.1 + 130), .ref (C.X.1 + 131), .ref (C.X.1 + 132), .ref (C.X.1 + 133), .ref (C.X.1 + 134), .ref (C.X.1 + 135), .ref (C.X.1 + 136), .ref (C.X.1 + 137), .ref (C.X.1 + 138), .int 3, .int 8, .int 20, .ref (C.X.1 + 139), .ref (C.X.1 + 140), .ref (C.X.1 + 141), .ref (C.X.1 + 142), .ref (C.X.1 + 143), .int 0, .int 0, .int 0, .int 0, .int 0, .int 0, .int 0, .int (-1), .ref (C.X.1 + 144), .ref (C.X.1 + 145), .ref (C.X.1 + 146), .ref (C.X.1 + 147), .ref (C.X.1 + 148), .ref (C.X.1 + 149), .ref (C.X.1 + 150), .ref (C.X.1 + 151), .ref (C.X.1 + 152), .ref (C.X.1 + 153), .ref (C.X.1 + 154), .ref (C.X.1 + 155), .ref (C.X.1 + 156), .ref (C.X.1 + 157), .ref (C.X.1 + 158), .ref (C.X.1 + 159), .ref (C.X.1 + 160), .ref (C.X.1 + 161), .ref (C.X.1 + 162), .ref (C.X.1 + 163), .ref (C.X.1 + 164), .ref (C.X.1 + 165), .null, .null, .null, .null, .null, .null, .null, .null, .int 0, .null, .int 0, .int 0, .int 0, .null, .int 0, .long 0, .long 0, .int 0, .int 0, .int 0, .null, .null, .null, .null, .null, .int 0, .int 0, .int 0, .int 0, .int 0, .null, .long 0, .long 0, .long 0, .long 0, .int 0, .int 0]) rfl rfl dX12_init_859 ?_
  refine ze_aload_n E dX12_init_862 0 rfl rfl ?_
  refine ze_sipush E dX12_init_863 (v := 4824) rfl ?_
  refine ze_newaI E (by decide) (N := 4824) rfl (by decide) zw_45 ⟨by decide, by decide⟩ (c2 := (38, 19018)) rfl (n2 := 167) rfl dX12_init_866 ?_
  refine ze_putF E 128 (by decide) rfl rfl zin12 48 (by decide) zw_1216 tyX12 tyX12_ok nmX12 rfl hin rfl rfl rfl (Nat.le_of_ble_eq_true rfl) (fs2 := [.ref (C.X.1 + 129), .ref (C.X.1 + 130), .ref (C.X.1 + 131), .ref (C.X.1 + 132), .ref (C.X.1 + 133), .ref (C.X.1 + 134), .ref (C.X.1 + 135), .ref (C.X.1 + 136), .ref (C.X.1 + 137), .ref (C.X.1 + 138), .int 3, .int 8, .int 20, .ref (C.X.1 + 139), .ref (C.X.1 + 140), .ref (C.X.1 + 141), .ref (C.X.1 + 142), .ref (C.X.1 + 143), .int 0, .int 0, .int 0, .int 0, .int 0, .int 0, .int 0, .int (-1), .ref (C.X.1 + 144), .ref (C.X.1 + 145), .ref (C.X.1 + 146), .ref (C.X.1 + 147), .ref (C.X.1 + 148), .ref (C.X.1 + 149), .ref (C.X.1 + 150), .ref (C.X.1 + 151), .ref (C.X.1 + 152), .ref (C.X.1 + 153), .ref (C.X.1 + 154), .ref (C.X.1 + 155), .ref (C.X.1 + 156), .ref (C.X.1 + 157), .ref (C.X.1 + 158), .ref (C.X.1 + 159), .ref (C.X.1 + 160), .ref (C.X.1 + 161), .ref (C.X.1 + 162), .ref (C.X.1 + 163), .ref (C.X.1 + 164), .ref (C.X.1 + 165), .ref (C.X.1 + 166), .null, .null, .null, .null, .null, .null, .null, .int 0, .null, .int 0, .int 0, .int 0, .null, .int 0, .long 0, .long 0, .int 0, .int 0, .int 0, .null, .null, .null, .null, .null, .int 0, .int 0, .int 0, .int 0, .int 0, .null, .long 0, .long 0, .long 0, .long 0, .int 0, .int 0]) rfl rfl dX12_init_868 ?_
  refine ze_aload_n E dX12_init_871 0 rfl rfl ?_
  refine ze_sipush E dX12_init_872 (v := 4824) rfl ?_
  refine ze_newaZ E (by decide) (N := 4824) rfl (by decide) zw_86 ⟨by decide, by decide⟩ (c2 := (39, 23842)) rfl (n2 := 168) rfl dX12_init_875 ?_
  refine ze_putF E 128 (by decide) rfl rfl zin12 49 (by decide) zw_1217 tyX12 tyX12_ok nmX12 rfl hin rfl rfl rfl (Nat.le_of_ble_eq_true rfl) (fs2 := [.ref (C.X.1 + 129), .ref (C.X.1 + 130), .ref (C.X.1 + 131), .ref (C.X.1 + 132), .ref (C.X.1 + 133), .ref (C.X.1 + 134), .ref (C.X.1 + 135), .ref (C.X.1 + 136), .ref (C.X.1 + 137), .ref (C.X.1 + 138), .int 3, .int 8, .int 20, .ref (C.X.1 + 139), .ref (C.X.1 + 140), .ref (C.X.1 + 141), .ref (C.X.1 + 142), .ref (C.X.1 + 143), .int 0, .int 0, .int 0, .int 0, .int 0, .int 0, .int 0, .int (-1), .ref (C.X.1 + 144), .ref (C.X.1 + 145), .ref (C.X.1 + 146), .ref (C.X.1 + 147), .ref (C.X.1 + 148), .ref (C.X.1 + 149), .ref (C.X.1 + 150), .ref (C.X.1 + 151), .ref (C.X.1 + 152), .ref (C.X.1 + 153), .ref (C.X.1 + 154), .ref (C.X.1 + 155), .ref (C.X.1 + 156), .ref (C.X.1 + 157), .ref (C.X.1 + 158), .ref (C.X.1 + 159), .ref (C.X.1 + 160), .ref (C.X.1 + 161), .ref (C.X.1 + 162), .ref (C.X.1 + 163), .ref (C.X.1 + 164), .ref (C.X.1 + 165), .ref (C.X.1 + 166), .ref (C.X.1 + 167), .null, .null, .null, .null, .null, .null, .int 0, .null, .int 0, .int 0, .int 0, .null, .int 0, .long 0, .long 0, .int 0, .int 0, .int 0, .null, .null, .null, .null, .null, .int 0, .int 0, .int 0, .int 0, .int 0, .null, .long 0, .long 0, .long 0, .long 0, .int 0, .int 0]) rfl rfl dX12_init_877 ?_
  refine ze_aload_n E dX12_init_880 0 rfl rfl ?_
  refine ze_sipush E dX12_init_881 (v := 4824) rfl ?_
  refine ze_newaI E (by decide) (N := 4824) rfl (by decide) zw_45 ⟨by decide, by decide⟩ (c2 := (40, 28666)) rfl (n2 := 169) rfl dX12_init_884 ?_
  refine ze_putF E 128 (by decide) rfl rfl zin12 50 (by decide) zw_1218 tyX12 tyX12_ok nmX12 rfl hin rfl rfl rfl (Nat.le_of_ble_eq_true rfl) (fs2 := [.ref (C.X.1 + 129), .ref (C.X.1 + 130), .ref (C.X.1 + 131), .ref (C.X.1 + 132), .ref (C.X.1 + 133), .ref (C.X.1 + 134), .ref (C.X.1 + 135), .ref (C.X.1 + 136), .ref (C.X.1 + 137), .ref (C.X.1 + 138), .int 3, .int 8, .int 20, .ref (C.X.1 + 139), .ref (C.X.1 + 140), .ref (C.X.1 + 141), .ref (C.X.1 + 142), .ref (C.X.1 + 143), .int 0, .int 0, .int 0, .int 0, .int 0, .int 0, .int 0, .int (-1), .ref (C.X.1 + 144), .ref (C.X.1 + 145), .ref (C.X.1 + 146), .ref (C.X.1 + 147), .ref (C.X.1 + 148), .ref (C.X.1 + 149), .ref (C.X.1 + 150), .ref (C.X.1 + 151), .ref (C.X.1 + 152), .ref (C.X.1 + 153), .ref (C.X.1 + 154), .ref (C.X.1 + 155), .ref (C.X.1 + 156), .ref (C.X.1 + 157), .ref (C.X.1 + 158), .ref (C.X.1 + 159), .ref (C.X.1 + 160), .ref (C.X.1 + 161), .ref (C.X.1 + 162), .ref (C.X.1 + 163), .ref (C.X.1 + 164), .ref (C.X.1 + 165), .ref (C.X.1 + 166), .ref (C.X.1 + 167), .ref (C.X.1 + 168), .null, .null, .null, .null, .null, .int 0, .null, .int 0, .int 0, .int 0, .null, .int 0, .long 0, .long 0, .int 0, .int 0, .int 0, .null, .null, .null, .null, .null, .int 0, .int 0, .int 0, .int 0, .int 0, .null, .long 0, .long 0, .long 0, .long 0, .int 0, .int 0]) rfl rfl dX12_init_886 ?_
  refine ze_aload_n E dX12_init_889 0 rfl rfl ?_
  refine ze_sipush E dX12_init_890 (v := 4824) rfl ?_
  refine ze_newaI E (by decide) (N := 4824) rfl (by decide) zw_45 ⟨by decide, by decide⟩ (c2 := (41, 33490)) rfl (n2 := 170) rfl dX12_init_893 ?_
  refine ze_putF E 128 (by decide) rfl rfl zin12 51 (by decide) zw_1219 tyX12 tyX12_ok nmX12 rfl hin rfl rfl rfl (Nat.le_of_ble_eq_true rfl) (fs2 := [.ref (C.X.1 + 129), .ref (C.X.1 + 130), .ref (C.X.1 + 131), .ref (C.X.1 + 132), .ref (C.X.1 + 133), .ref (C.X.1 + 134), .ref (C.X.1 + 135), .ref (C.X.1 + 136), .ref (C.X.1 + 137), .ref (C.X.1 + 138), .int 3, .int 8, .int 20, .ref (C.X.1 + 139), .ref (C.X.1 + 140), .ref (C.X.1 + 141), .ref (C.X.1 + 142), .ref (C.X.1 + 143), .int 0, .int 0, .int 0, .int 0, .int 0, .int 0, .int 0, .int (-1), .ref (C.X.1 + 144), .ref (C.X.1 + 145), .ref (C.X.1 + 146), .ref (C.X.1 + 147), .ref (C.X.1 + 148), .ref (C.X.1 + 149), .ref (C.X.1 + 150), .ref (C.X.1 + 151), .ref (C.X.1 + 152), .ref (C.X.1 + 153), .ref (C.X.1 + 154), .ref (C.X.1 + 155), .ref (C.X.1 + 156), .ref (C.X.1 + 157), .ref (C.X.1 + 158), .ref (C.X.1 + 159), .ref (C.X.1 + 160), .ref (C.X.1 + 161), .ref (C.X.1 + 162), .ref (C.X.1 + 163), .ref (C.X.1 + 164), .ref (C.X.1 + 165), .ref (C.X.1 + 166), .ref (C.X.1 + 167), .ref (C.X.1 + 168), .ref (C.X.1 + 169), .null, .null, .null, .null, .int 0, .null, .int 0, .int 0, .int 0, .null, .int 0, .long 0, .long 0, .int 0, .int 0, .int 0, .null, .null, .null, .null, .null, .int 0, .int 0, .int 0, .int 0, .int 0, .null, .long 0, .long 0, .long 0, .long 0, .int 0, .int 0]) rfl rfl dX12_init_895 ?_
  refine ze_aload_n E dX12_init_898 0 rfl rfl ?_
  refine ze_sipush E dX12_init_899 (v := 4824) rfl ?_
  refine ze_newaI E (by decide) (N := 4824) rfl (by decide) zw_45 ⟨by decide, by decide⟩ (c2 := (42, 38314)) rfl (n2 := 171) rfl dX12_init_902 ?_
  refine ze_putF E 128 (by decide) rfl rfl zin12 52 (by decide) zw_1220 tyX12 tyX12_ok nmX12 rfl hin rfl rfl rfl (Nat.le_of_ble_eq_true rfl) (fs2 := [.ref (C.X.1 + 129), .ref (C.X.1 + 130), .ref (C.X.1 + 131), .ref (C.X.1 + 132), .ref (C.X.1 + 133), .ref (C.X.1 + 134), .ref (C.X.1 + 135), .ref (C.X.1 + 136), .ref (C.X.1 + 137), .ref (C.X.1 + 138), .int 3, .int 8, .int 20, .ref (C.X.1 + 139), .ref (C.X.1 + 140), .ref (C.X.1 + 141), .ref (C.X.1 + 142), .ref (C.X.1 + 143), .int 0, .int 0, .int 0, .int 0, .int 0, .int 0, .int 0, .int (-1), .ref (C.X.1 + 144), .ref (C.X.1 + 145), .ref (C.X.1 + 146), .ref (C.X.1 + 147), .ref (C.X.1 + 148), .ref (C.X.1 + 149), .ref (C.X.1 + 150), .ref (C.X.1 + 151), .ref (C.X.1 + 152), .ref (C.X.1 + 153), .ref (C.X.1 + 154), .ref (C.X.1 + 155), .ref (C.X.1 + 156), .ref (C.X.1 + 157), .ref (C.X.1 + 158), .ref (C.X.1 + 159), .ref (C.X.1 + 160), .ref (C.X.1 + 161), .ref (C.X.1 + 162), .ref (C.X.1 + 163), .ref (C.X.1 + 164), .ref (C.X.1 + 165), .ref (C.X.1 + 166), .ref (C.X.1 + 167), .ref (C.X.1 + 168), .ref (C.X.1 + 169), .ref (C.X.1 + 170), .null, .null, .null, .int 0, .null, .int 0, .int 0, .int 0, .null, .int 0, .long 0, .long 0, .int 0, .int 0, .int 0, .null, .null, .null, .null, .null, .int 0, .int 0, .int 0, .int 0, .int 0, .null, .long 0, .long 0, .long 0, .long 0, .int 0, .int 0]) rfl rfl dX12_init_904 ?_
  refine ze_aload_n E dX12_init_907 0 rfl rfl ?_
  refine ze_sipush E dX12_init_908 (v := 4824) rfl ?_
  refine ze_newaI E (by decide) (N := 4824) rfl (by decide) zw_45 ⟨by decide, by decide⟩ (c2 := (43, 43138)) rfl (n2 := 172) rfl dX12_init_911 ?_
  refine ze_putF E 128 (by decide) rfl rfl zin12 53 (by decide) zw_1221 tyX12 tyX12_ok nmX12 rfl hin rfl rfl rfl (Nat.le_of_ble_eq_true rfl) (fs2 := [.ref (C.X.1 + 129), .ref (C.X.1 + 130), .ref (C.X.1 + 131), .ref (C.X.1 + 132), .ref (C.X.1 + 133), .ref (C.X.1 + 134), .ref (C.X.1 + 135), .ref (C.X.1 + 136), .ref (C.X.1 + 137), .ref (C.X.1 + 138), .int 3, .int 8, .int 20, .ref (C.X.1 + 139), .ref (C.X.1 + 140), .ref (C.X.1 + 141), .ref (C.X.1 + 142), .ref (C.X.1 + 143), .int 0, .int 0, .int 0, .int 0, .int 0, .int 0, .int 0, .int (-1), .ref (C.X.1 + 144), .ref (C.X.1 + 145), .ref (C.X.1 + 146), .ref (C.X.1 + 147), .ref (C.X.1 + 148), .ref (C.X.1 + 149), .ref (C.X.1 + 150), .ref (C.X.1 + 151), .ref (C.X.1 + 152), .ref (C.X.1 + 153), .ref (C.X.1 + 154), .ref (C.X.1 + 155), .ref (C.X.1 + 156), .ref (C.X.1 + 157), .ref (C.X.1 + 158), .ref (C.X.1 + 159), .ref (C.X.1 + 160), .ref (C.X.1 + 161), .ref (C.X.1 + 162), .ref (C.X.1 + 163), .ref (C.X.1 + 164), .ref (C.X.1 + 165), .ref (C.X.1 + 166), .ref (C.X.1 + 167), .ref (C.X.1 + 168), .ref (C.X.1 + 169), .ref (C.X.1 + 170), .ref (C.X.1 + 171), .null, .null, .int 0, .null, .int 0, .int 0, .int 0, .null, .int 0, .long 0, .long 0, .int 0, .int 0, .int 0, .null, .null, .null, .null, .null, .int 0, .int 0, .int 0, .int 0, .int 0, .null, .long 0, .long 0, .long 0, .long 0, .int 0, .int 0]) rfl rfl dX12_init_913 ?_
  refine ze_aload_n E dX12_init_916 0 rfl rfl ?_
  refine ze_sipush E dX12_init_917 (v := 4824) rfl ?_
  refine ze_newaI E (by decide) (N := 4824) rfl (by decide) zw_45 ⟨by decide, by decide⟩ (c2 := (44, 47962)) rfl (n2 := 173) rfl dX12_init_920 ?_
  refine ze_putF E 128 (by decide) rfl rfl zin12 54 (by decide) zw_1222 tyX12 tyX12_ok nmX12 rfl hin rfl rfl rfl (Nat.le_of_ble_eq_true rfl) (fs2 := [.ref (C.X.1 + 129), .ref (C.X.1 + 130), .ref (C.X.1 + 131), .ref (C.X.1 + 132), .ref (C.X.1 + 133), .ref (C.X.1 + 134), .ref (C.X.1 + 135), .ref (C.X.1 + 136), .ref (C.X.1 + 137), .ref (C.X.1 + 138), .int 3, .int 8, .int 20, .ref (C.X.1 + 139), .ref (C.X.1 + 140), .ref (C.X.1 + 141), .ref (C.X.1 + 142), .ref (C.X.1 + 143), .int 0, .int 0, .int 0, .int 0, .int 0, .int 0, .int 0, .int (-1), .ref (C.X.1 + 144), .ref (C.X.1 + 145), .ref (C.X.1 + 146), .ref (C.X.1 + 147), .ref (C.X.1 + 148), .ref (C.X.1 + 149), .ref (C.X.1 + 150), .ref (C.X.1 + 151), .ref (C.X.1 + 152), .ref (C.X.1 + 153), .ref (C.X.1 + 154), .ref (C.X.1 + 155), .ref (C.X.1 + 156), .ref (C.X.1 + 157), .ref (C.X.1 + 158), .ref (C.X.1 + 159), .ref (C.X.1 + 160), .ref (C.X.1 + 161), .ref (C.X.1 + 162), .ref (C.X.1 + 163), .ref (C.X.1 + 164), .ref (C.X.1 + 165), .ref (C.X.1 + 166), .ref (C.X.1 + 167), .ref (C.X.1 + 168), .ref (C.X.1 + 169), .ref (C.X.1 + 170), .ref (C.X.1 + 171), .ref (C.X.1 + 172), .null, .int 0, .null, .int 0, .int 0, .int 0, .null, .int 0, .long 0, .long 0, .int 0, .int 0, .int 0, .null, .null, .null, .null, .null, .int 0, .int 0, .int 0, .int 0, .int 0, .null, .long 0, .long 0, .long 0, .long 0, .int 0, .int 0]) rfl rfl dX12_init_922 ?_
  refine ze_aload_n E dX12_init_925 0 rfl rfl ?_
  refine ze_ldc E dX12_init_926 (v := 128640) zw_1167 ?_
  refine ze_newaI E (by decide) (N := 128640) rfl (by decide) zw_45 ⟨by decide, by decide⟩ (c2 := (45, 176602)) rfl (n2 := 174) rfl dX12_init_928 ?_
  refine ze_putF E 128 (by decide) rfl rfl zin12 55 (by decide) zw_1223 tyX12 tyX12_ok nmX12 rfl hin rfl rfl rfl (Nat.le_of_ble_eq_true rfl) (fs2 := [.ref (C.X.1 + 129), .ref (C.X.1 + 130), .ref (C.X.1 + 131), .ref (C.X.1 + 132), .ref (C.X.1 + 133), .ref (C.X.1 + 134), .ref (C.X.1 + 135), .ref (C.X.1 + 136), .ref (C.X.1 + 137), .ref (C.X.1 + 138), .int 3, .int 8, .int 20, .ref (C.X.1 + 139), .ref (C.X.1 + 140), .ref (C.X.1 + 141), .ref (C.X.1 + 142), .ref (C.X.1 + 143), .int 0, .int 0, .int 0, .int 0, .int 0, .int 0, .int 0, .int (-1), .ref (C.X.1 + 144), .ref (C.X.1 + 145), .ref (C.X.1 + 146), .ref (C.X.1 + 147), .ref (C.X.1 + 148), .ref (C.X.1 + 149), .ref (C.X.1 + 150), .ref (C.X.1 + 151), .ref (C.X.1 + 152), .ref (C.X.1 + 153), .ref (C.X.1 + 154), .ref (C.X.1 + 155), .ref (C.X.1 + 156), .ref (C.X.1 + 157), .ref (C.X.1 + 158), .ref (C.X.1 + 159), .ref (C.X.1 + 160), .ref (C.X.1 + 161), .ref (C.X.1 + 162), .ref (C.X.1 + 163), .ref (C.X.1 + 164), .ref (C.X.1 + 165), .ref (C.X.1 + 166), .ref (C.X.1 + 167), .ref (C.X.1 + 168), .ref (C.X.1 + 169), .ref (C.X.1 + 170), .ref (C.X.1 + 171), .ref (C.X.1 + 172), .ref (C.X.1 + 173), .int 0, .null, .int 0, .int 0, .int 0, .null, .int 0, .long 0, .long 0, .int 0, .int 0, .int 0, .null, .null, .null, .null, .null, .int 0, .int 0, .int 0, .int 0, .int 0, .null, .long 0, .long 0, .long 0, .long 0, .int 0, .int 0]) rfl rfl dX12_init_930 ?_
  refine ze_aload_n E dX12_init_933 0 rfl rfl ?_
  refine ze_sipush E dX12_init_934 (v := 700) rfl ?_
  refine ze_newaI E (by decide) (N := 700) rfl (by decide) zw_45 ⟨by decide, by decide⟩ (c2 := (46, 177302)) rfl (n2 := 175) rfl dX12_init_937 ?_
  refine ze_putF E 128 (by decide) rfl rfl zin12 57 (by decide) zw_1225 tyX12 tyX12_ok nmX12 rfl hin rfl rfl rfl (Nat.le_of_ble_eq_true rfl) (fs2 := [.ref (C.X.1 + 129), .ref (C.X.1 + 130), .ref (C.X.1 + 131), .ref (C.X.1 + 132), .ref (C.X.1 + 133), .ref (C.X.1 + 134), .ref (C.X.1 + 135), .ref (C.X.1 + 136), .ref (C.X.1 + 137), .ref (C.X.1 + 138), .int 3, .int 8, .int 20, .ref (C.X.1 + 139), .ref (C.X.1 + 140), .ref (C.X.1 + 141), .ref (C.X.1 + 142), .ref (C.X.1 + 143), .int 0, .int 0, .int 0, .int 0, .int 0, .int 0, .int 0, .int (-1), .ref (C.X.1 + 144), .ref (C.X.1 + 145), .ref (C.X.1 + 146), .ref (C.X.1 + 147), .ref (C.X.1 + 148), .ref (C.X.1 + 149), .ref (C.X.1 + 150), .ref (C.X.1 + 151), .ref (C.X.1 + 152), .ref (C.X.1 + 153), .ref (C.X.1 + 154), .ref (C.X.1 + 155), .ref (C.X.1 + 156), .ref (C.X.1 + 157), .ref (C.X.1 + 158), .ref (C.X.1 + 159), .ref (C.X.1 + 160), .ref (C.X.1 + 161), .ref (C.X.1 + 162), .ref (C.X.1 + 163), .ref (C.X.1 + 164), .ref (C.X.1 + 165), .ref (C.X.1 + 166), .ref (C.X.1 + 167), .ref (C.X.1 + 168), .ref (C.X.1 + 169), .ref (C.X.1 + 170), .ref (C.X.1 + 171), .ref (C.X.1 + 172), .ref (C.X.1 + 173), .int 0, .ref (C.X.1 + 174), .int 0, .int 0, .int 0, .null, .int 0, .long 0, .long 0, .int 0, .int 0, .int 0, .null, .null, .null, .null, .null, .int 0, .int 0, .int 0, .int 0, .int 0, .null, .long 0, .long 0, .long 0, .long 0, .int 0, .int 0]) rfl rfl dX12_init_939 ?_
  refine ze_aload_n E dX12_init_942 0 rfl rfl ?_
  refine ze_sipush E dX12_init_943 (v := 700) rfl ?_
  refine ze_newaJ E (by decide) (N := 700) rfl (by decide) zw_85 ⟨by decide, by decide⟩ (c2 := (47, 178002)) rfl (n2 := 176) rfl dX12_init_946 ?_
  refine ze_putF E 128 (by decide) rfl rfl zin12 61 (by decide) zw_1229 tyX12 tyX12_ok nmX12 rfl hin rfl rfl rfl (Nat.le_of_ble_eq_true rfl) (fs2 := [.ref (C.X.1 + 129), .ref (C.X.1 + 130), .ref (C.X.1 + 131), .ref (C.X.1 + 132), .ref (C.X.1 + 133), .ref (C.X.1 + 134), .ref (C.X.1 + 135), .ref (C.X.1 + 136), .ref (C.X.1 + 137), .ref (C.X.1 + 138), .int 3, .int 8, .int 20, .ref (C.X.1 + 139), .ref (C.X.1 + 140), .ref (C.X.1 + 141), .ref (C.X.1 + 142), .ref (C.X.1 + 143), .int 0, .int 0, .int 0, .int 0, .int 0, .int 0, .int 0, .int (-1), .ref (C.X.1 + 144), .ref (C.X.1 + 145), .ref (C.X.1 + 146), .ref (C.X.1 + 147), .ref (C.X.1 + 148), .ref (C.X.1 + 149), .ref (C.X.1 + 150), .ref (C.X.1 + 151), .ref (C.X.1 + 152), .ref (C.X.1 + 153), .ref (C.X.1 + 154), .ref (C.X.1 + 155), .ref (C.X.1 + 156), .ref (C.X.1 + 157), .ref (C.X.1 + 158), .ref (C.X.1 + 159), .ref (C.X.1 + 160), .ref (C.X.1 + 161), .ref (C.X.1 + 162), .ref (C.X.1 + 163), .ref (C.X.1 + 164), .ref (C.X.1 + 165), .ref (C.X.1 + 166), .ref (C.X.1 + 167), .ref (C.X.1 + 168), .ref (C.X.1 + 169), .ref (C.X.1 + 170), .ref (C.X.1 + 171), .ref (C.X.1 + 172), .ref (C.X.1 + 173), .int 0, .ref (C.X.1 + 174), .int 0, .int 0, .int 0, .ref (C.X.1 + 175), .int 0, .long 0, .long 0, .int 0, .int 0, .int 0, .null, .null, .null, .null, .null, .int 0, .int 0, .int 0, .int 0, .int 0, .null, .long 0, .long 0, .long 0, .long 0, .int 0, .int 0]) rfl rfl dX12_init_948 ?_
  refine ze_aload_n E dX12_init_951 0 rfl rfl ?_
  refine ze_sipush E dX12_init_952 (v := 201) rfl ?_
  refine ze_newaI E (by decide) (N := 201) rfl (by decide) zw_45 ⟨by decide, by decide⟩ (c2 := (48, 178203)) rfl (n2 := 177) rfl dX12_init_955 ?_
  refine ze_putF E 128 (by decide) rfl rfl zin12 68 (by decide) zw_1236 tyX12 tyX12_ok nmX12 rfl hin rfl rfl rfl (Nat.le_of_ble_eq_true rfl) (fs2 := [.ref (C.X.1 + 129), .ref (C.X.1 + 130), .ref (C.X.1 + 131), .ref (C.X.1 + 132), .ref (C.X.1 + 133), .ref (C.X.1 + 134), .ref (C.X.1 + 135), .ref (C.X.1 + 136), .ref (C.X.1 + 137), .ref (C.X.1 + 138), .int 3, .int 8, .int 20, .ref (C.X.1 + 139), .ref (C.X.1 + 140), .ref (C.X.1 + 141), .ref (C.X.1 + 142), .ref (C.X.1 + 143), .int 0, .int 0, .int 0, .int 0, .int 0, .int 0, .int 0, .int (-1), .ref (C.X.1 + 144), .ref (C.X.1 + 145), .ref (C.X.1 + 146), .ref (C.X.1 + 147), .ref (C.X.1 + 148), .ref (C.X.1 + 149), .ref (C.X.1 + 150), .ref (C.X.1 + 151), .ref (C.X.1 + 152), .ref (C.X.1 + 153), .ref (C.X.1 + 154), .ref (C.X.1 + 155), .ref (C.X.1 + 156), .ref (C.X.1 + 157), .ref (C.X.1 + 158), .ref (C.X.1 + 159), .ref (C.X.1 + 160), .ref (C.X.1 + 161), .ref (C.X.1 + 162), .ref (C.X.1 + 163), .ref (C.X.1 + 164), .ref (C.X.1 + 165), .ref (C.X.1 + 166), .ref (C.X.1 + 167), .ref (C.X.1 + 168), .ref (C.X.1 + 169), .ref (C.X.1 + 170), .ref (C.X.1 + 171), .ref (C.X.1 + 172), .ref (C.X.1 + 173), .int 0, .ref (C.X.1 + 174), .int 0, .int 0, .int 0, .ref (C.X.1 + 175), .int 0, .long 0, .long 0, .int 0, .int 0, .int 0, .ref (C.X.1 + 176), .null, .null, .null, .null, .int 0, .int 0, .int 0, .int 0, .int 0, .null, .long 0, .long 0, .long 0, .long 0, .int 0, .int 0]) rfl rfl dX12_init_957 ?_
  refine ze_aload_n E dX12_init_960 0 rfl rfl ?_
  refine ze_sipush E dX12_init_961 (v := 201) rfl ?_
  refine ze_newaI E (by decide) (N := 201) rfl (by decide) zw_45 ⟨by decide, by decide⟩ (c2 := (49, 178404)) rfl (n2 := 178) rfl dX12_init_964 ?_
  refine ze_putF E 128 (by decide) rfl rfl zin12 69 (by decide) zw_1237 tyX12 tyX12_ok nmX12 rfl hin rfl rfl rfl (Nat.le_of_ble_eq_true rfl) (fs2 := [.ref (C.X.1 + 129), .ref (C.X.1 + 130), .ref (C.X.1 + 131), .ref (C.X.1 + 132), .ref (C.X.1 + 133), .ref (C.X.1 + 134), .ref (C.X.1 + 135), .ref (C.X.1 + 136), .ref (C.X.1 + 137), .ref (C.X.1 + 138), .int 3, .int 8, .int 20, .ref (C.X.1 + 139), .ref (C.X.1 + 140), .ref (C.X.1 + 141), .ref (C.X.1 + 142), .ref (C.X.1 + 143), .int 0, .int 0, .int 0, .int 0, .int 0, .int 0, .int 0, .int (-1), .ref (C.X.1 + 144), .ref (C.X.1 + 145), .ref (C.X.1 + 146), .ref (C.X.1 + 147), .ref (C.X.1 + 148), .ref (C.X.1 + 149), .ref (C.X.1 + 150), .ref (C.X.1 + 151), .ref (C.X.1 + 152), .ref (C.X.1 + 153), .ref (C.X.1 + 154), .ref (C.X.1 + 155), .ref (C.X.1 + 156), .ref (C.X.1 + 157), .ref (C.X.1 + 158), .ref (C.X.1 + 159), .ref (C.X.1 + 160), .ref (C.X.1 + 161), .ref (C.X.1 + 162), .ref (C.X.1 + 163), .ref (C.X.1 + 164), .ref (C.X.1 + 165), .ref (C.X.1 + 166), .ref (C.X.1 + 167), .ref (C.X.1 + 168), .ref (C.X.1 + 169), .ref (C.X.1 + 170), .ref (C.X.1 + 171), .ref (C.X.1 + 172), .ref (C.X.1 + 173), .int 0, .ref (C.X.1 + 174), .int 0, .int 0, .int 0, .ref (C.X.1 + 175), .int 0, .long 0, .long 0, .int 0, .int 0, .int 0, .ref (C.X.1 + 176), .ref (C.X.1 + 177), .null, .null, .null, .int 0, .int 0, .int 0, .int 0, .int 0, .null, .long 0, .long 0, .long 0, .long 0, .int 0, .int 0]) rfl rfl dX12_init_966 ?_
  refine ze_aload_n E dX12_init_969 0 rfl rfl ?_
  refine ze_sipush E dX12_init_970 (v := 201) rfl ?_
  refine ze_newaI E (by decide) (N := 201) rfl (by decide) zw_45 ⟨by decide, by decide⟩ (c2 := (50, 178605)) rfl (n2 := 179) rfl dX12_init_973 ?_
  refine ze_putF E 128 (by decide) rfl rfl zin12 70 (by decide) zw_1238 tyX12 tyX12_ok nmX12 rfl hin rfl rfl rfl (Nat.le_of_ble_eq_true rfl) (fs2 := [.ref (C.X.1 + 129), .ref (C.X.1 + 130), .ref (C.X.1 + 131), .ref (C.X.1 + 132), .ref (C.X.1 + 133), .ref (C.X.1 + 134), .ref (C.X.1 + 135), .ref (C.X.1 + 136), .ref (C.X.1 + 137), .ref (C.X.1 + 138), .int 3, .int 8, .int 20, .ref (C.X.1 + 139), .ref (C.X.1 + 140), .ref (C.X.1 + 141), .ref (C.X.1 + 142), .ref (C.X.1 + 143), .int 0, .int 0, .int 0, .int 0, .int 0, .int 0, .int 0, .int (-1), .ref (C.X.1 + 144), .ref (C.X.1 + 145), .ref (C.X.1 + 146), .ref (C.X.1 + 147), .ref (C.X.1 + 148), .ref (C.X.1 + 149), .ref (C.X.1 + 150), .ref (C.X.1 + 151), .ref (C.X.1 + 152), .ref (C.X.1 + 153), .ref (C.X.1 + 154), .ref (C.X.1 + 155), .ref (C.X.1 + 156), .ref (C.X.1 + 157), .ref (C.X.1 + 158), .ref (C.X.1 + 159), .ref (C.X.1 + 160), .ref (C.X.1 + 161), .ref (C.X.1 + 162), .ref (C.X.1 + 163), .ref (C.X.1 + 164), .ref (C.X.1 + 165), .ref (C.X.1 + 166), .ref (C.X.1 + 167), .ref (C.X.1 + 168), .ref (C.X.1 + 169), .ref (C.X.1 + 170), .ref (C.X.1 + 171), .ref (C.X.1 + 172), .ref (C.X.1 + 173), .int 0, .ref (C.X.1 + 174), .int 0, .int 0, .int 0, .ref (C.X.1 + 175), .int 0, .long 0, .long 0, .int 0, .int 0, .int 0, .ref (C.X.1 + 176), .ref (C.X.1 + 177), .ref (C.X.1 + 178), .null, .null, .int 0, .int 0, .int 0, .int 0, .int 0, .null, .long 0, .long 0, .long 0, .long 0, .int 0, .int 0]) rfl rfl dX12_init_975 ?_
  refine ze_aload_n E dX12_init_978 0 rfl rfl ?_
  refine ze_sipush E dX12_init_979 (v := 201) rfl ?_
  refine ze_newaI E (by decide) (N := 201) rfl (by decide) zw_45 ⟨by decide, by decide⟩ (c2 := (51, 178806)) rfl (n2 := 180) rfl dX12_init_982 ?_
  refine ze_putF E 128 (by decide) rfl rfl zin12 71 (by decide) zw_1239 tyX12 tyX12_ok nmX12 rfl hin rfl rfl rfl (Nat.le_of_ble_eq_true rfl) (fs2 := [.ref (C.X.1 + 129), .ref (C.X.1 + 130), .ref (C.X.1 + 131), .ref (C.X.1 + 132), .ref (C.X.1 + 133), .ref (C.X.1 + 134), .ref (C.X.1 + 135), .ref (C.X.1 + 136), .ref (C.X.1 + 137), .ref (C.X.1 + 138), .int 3, .int 8, .int 20, .ref (C.X.1 + 139), .ref (C.X.1 + 140), .ref (C.X.1 + 141), .ref (C.X.1 + 142), .ref (C.X.1 + 143), .int 0, .int 0, .int 0, .int 0, .int 0, .int 0, .int 0, .int (-1), .ref (C.X.1 + 144), .ref (C.X.1 + 145), .ref (C.X.1 + 146), .ref (C.X.1 + 147), .ref (C.X.1 + 148), .ref (C.X.1 + 149), .ref (C.X.1 + 150), .ref (C.X.1 + 151), .ref (C.X.1 + 152), .ref (C.X.1 + 153), .ref (C.X.1 + 154), .ref (C.X.1 + 155), .ref (C.X.1 + 156), .ref (C.X.1 + 157), .ref (C.X.1 + 158), .ref (C.X.1 + 159), .ref (C.X.1 + 160), .ref (C.X.1 + 161), .ref (C.X.1 + 162), .ref (C.X.1 + 163), .ref (C.X.1 + 164), .ref (C.X.1 + 165), .ref (C.X.1 + 166), .ref (C.X.1 + 167), .ref (C.X.1 + 168), .ref (C.X.1 + 169), .ref (C.X.1 + 170), .ref (C.X.1 + 171), .ref (C.X.1 + 172), .ref (C.X.1 + 173), .int 0, .ref (C.X.1 + 174), .int 0, .int 0, .int 0, .ref (C.X.1 + 175), .int 0, .long 0, .long 0, .int 0, .int 0, .int 0, .ref (C.X.1 + 176), .ref (C.X.1 + 177), .ref (C.X.1 + 178), .ref (C.X.1 + 179), .null, .int 0, .int 0, .int 0, .int 0, .int 0, .null, .long 0, .long 0, .long 0, .long 0, .int 0, .int 0]) rfl rfl dX12_init_984 ?_
  refine ze_aload_n E dX12_init_987 0 rfl rfl ?_
  refine ze_sipush E dX12_init_988 (v := 201) rfl ?_
  refine ze_newaI E (by decide) (N := 201) rfl (by decide) zw_45 ⟨by decide, by decide⟩ (c2 := (52, 179007)) rfl (n2 := 181) rfl dX12_init_991 ?_
  refine ze_putF E 128 (by decide) rfl rfl zin12 72 (by decide) zw_1240 tyX12 tyX12_ok nmX12 rfl hin rfl rfl rfl (Nat.le_of_ble_eq_true rfl) (fs2 := [.ref (C.X.1 + 129), .ref (C.X.1 + 130), .ref (C.X.1 + 131), .ref (C.X.1 + 132), .ref (C.X.1 + 133), .ref (C.X.1 + 134), .ref (C.X.1 + 135), .ref (C.X.1 + 136), .ref (C.X.1 + 137), .ref (C.X.1 + 138), .int 3, .int 8, .int 20, .ref (C.X.1 + 139), .ref (C.X.1 + 140), .ref (C.X.1 + 141), .ref (C.X.1 + 142), .ref (C.X.1 + 143), .int 0, .int 0, .int 0, .int 0, .int 0, .int 0, .int 0, .int (-1), .ref (C.X.1 + 144), .ref (C.X.1 + 145), .ref (C.X.1 + 146), .ref (C.X.1 + 147), .ref (C.X.1 + 148), .ref (C.X.1 + 149), .ref (C.X.1 + 150), .ref (C.X.1 + 151), .ref (C.X.1 + 152), .ref (C.X.1 + 153), .ref (C.X.1 + 154), .ref (C.X.1 + 155), .ref (C.X.1 + 156), .ref (C.X.1 + 157), .ref (C.X.1 + 158), .ref (C.X.1 + 159), .ref (C.X.1 + 160), .ref (C.X.1 + 161), .ref (C.X.1 + 162), .ref (C.X.1 + 163), .ref (C.X.1 + 164), .ref (C.X.1 + 165), .ref (C.X.1 + 166), .ref (C.X.1 + 167), .ref (C.X.1 + 168), .ref (C.X.1 + 169), .ref (C.X.1 + 170), .ref (C.X.1 + 171), .ref (C.X.1 + 172), .ref (C.X.1 + 173), .int 0, .ref (C.X.1 + 174), .int 0, .int 0, .int 0, .ref (C.X.1 + 175), .int 0, .long 0, .long 0, .int 0, .int 0, .int 0, .ref (C.X.1 + 176), .ref (C.X.1 + 177), .ref (C.X.1 + 178), .ref (C.X.1 + 179), .ref (C.X.1 + 180), .int 0, .int 0, .int 0, .int 0, .int 0, .null, .long 0, .long 0, .long 0, .long 0, .int 0, .int 0]) rfl rfl dX12_init_993 ?_
  refine ze_aload_n E dX12_init_996 0 rfl rfl ?_
  refine ze_iconst E dX12_init_997 (v := (-1)) rfl ?_
  refine ze_put E 128 (by decide) rfl rfl zin12 73 (by decide) zw_1241 tyX12 tyX12_ok nmX12 rfl rfl rfl (Nat.le_of_ble_eq_true rfl) (fs2 := [.ref (C.X.1 + 129), .ref (C.X.1 + 130), .ref (C.X.1 + 131), .ref (C.X.1 + 132), .ref (C.X.1 + 133), .ref (C.X.1 + 134), .ref (C.X.1 + 135), .ref (C.X.1 + 136), .ref (C.X.1 + 137), .ref (C.X.1 + 138), .int 3, .int 8, .int 20, .ref (C.X.1 + 139), .ref (C.X.1 + 140), .ref (C.X.1 + 141), .ref (C.X.1 + 142), .ref (C.X.1 + 143), .int 0, .int 0, .int 0, .int 0, .int 0, .int 0, .int 0, .int (-1), .ref (C.X.1 + 144), .ref (C.X.1 + 145), .ref (C.X.1 + 146), .ref (C.X.1 + 147), .ref (C.X.1 + 148), .ref (C.X.1 + 149), .ref (C.X.1 + 150), .ref (C.X.1 + 151), .ref (C.X.1 + 152), .ref (C.X.1 + 153), .ref (C.X.1 + 154), .ref (C.X.1 + 155), .ref (C.X.1 + 156), .ref (C.X.1 + 157), .ref (C.X.1 + 158), .ref (C.X.1 + 159), .ref (C.X.1 + 160), .ref (C.X.1 + 161), .ref (C.X.1 + 162), .ref (C.X.1 + 163), .ref (C.X.1 + 164), .ref (C.X.1 + 165), .ref (C.X.1 + 166), .ref (C.X.1 + 167), .ref (C.X.1 + 168), .ref (C.X.1 + 169), .ref (C.X.1 + 170), .ref (C.X.1 + 171), .ref (C.X.1 + 172), .ref (C.X.1 + 173), .int 0, .ref (C.X.1 + 174), .int 0, .int 0, .int 0, .ref (C.X.1 + 175), .int 0, .long 0, .long 0, .int 0, .int 0, .int 0, .ref (C.X.1 + 176), .ref (C.X.1 + 177), .ref (C.X.1 + 178), .ref (C.X.1 + 179), .ref (C.X.1 + 180), .int (-1), .int 0, .int 0, .int 0, .int 0, .null, .long 0, .long 0, .long 0, .long 0, .int 0, .int 0]) rfl rfl dX12_init_998 ?_
  refine ze_aload_n E dX12_init_1001 0 rfl rfl ?_
  refine ze_bipush E dX12_init_1002 (v := 60) rfl ?_
  refine ze_newaJ E (by decide) (N := 60) rfl (by decide) zw_85 ⟨by decide, by decide⟩ (c2 := (53, 179067)) rfl (n2 := 182) rfl dX12_init_1004 ?_
  refine ze_putF E 128 (by decide) rfl rfl zin12 78 (by decide) zw_1246 tyX12 tyX12_ok nmX12 rfl hin rfl rfl rfl (Nat.le_of_ble_eq_true rfl) (fs2 := [.ref (C.X.1 + 129), .ref (C.X.1 + 130), .ref (C.X.1 + 131), .ref (C.X.1 + 132), .ref (C.X.1 + 133), .ref (C.X.1 + 134), .ref (C.X.1 + 135), .ref (C.X.1 + 136), .ref (C.X.1 + 137), .ref (C.X.1 + 138), .int 3, .int 8, .int 20, .ref (C.X.1 + 139), .ref (C.X.1 + 140), .ref (C.X.1 + 141), .ref (C.X.1 + 142), .ref (C.X.1 + 143), .int 0, .int 0, .int 0, .int 0, .int 0, .int 0, .int 0, .int (-1), .ref (C.X.1 + 144), .ref (C.X.1 + 145), .ref (C.X.1 + 146), .ref (C.X.1 + 147), .ref (C.X.1 + 148), .ref (C.X.1 + 149), .ref (C.X.1 + 150), .ref (C.X.1 + 151), .ref (C.X.1 + 152), .ref (C.X.1 + 153), .ref (C.X.1 + 154), .ref (C.X.1 + 155), .ref (C.X.1 + 156), .ref (C.X.1 + 157), .ref (C.X.1 + 158), .ref (C.X.1 + 159), .ref (C.X.1 + 160), .ref (C.X.1 + 161), .ref (C.X.1 + 162), .ref (C.X.1 + 163), .ref (C.X.1 + 164), .ref (C.X.1 + 165), .ref (C.X.1 + 166), .ref (C.X.1 + 167), .ref (C.X.1 + 168), .ref (C.X.1 + 169), .ref (C.X.1 + 170), .ref (C.X.1 + 171), .ref (C.X.1 + 172), .ref (C.X.1 + 173), .int 0, .ref (C.X.1 + 174), .int 0, .int 0, .int 0, .ref (C.X.1 + 175), .int 0, .long 0, .long 0, .int 0, .int 0, .int 0, .ref (C.X.1 + 176), .ref (C.X.1 + 177), .ref (C.X.1 + 178), .ref (C.X.1 + 179), .ref (C.X.1 + 180), .int (-1), .int 0, .int 0, .int 0, .int 0, .ref (C.X.1 + 181), .long 0, .long 0, .long 0, .long 0, .int 0, .int 0]) rfl rfl dX12_init_1006 ?_
  refine ze_aload_n E dX12_init_1009 0 rfl rfl ?_
  refine ze_iconst E dX12_init_1010 (v := (-1)) rfl ?_
  refine ze_put E 128 (by decide) rfl rfl zin12 84 (by decide) zw_1252 tyX12 tyX12_ok nmX12 rfl rfl rfl (Nat.le_of_ble_eq_true rfl) (fs2 := [.ref (C.X.1 + 129), .ref (C.X.1 + 130), .ref (C.X.1 + 131), .ref (C.X.1 + 132), .ref (C.X.1 + 133), .ref (C.X.1 + 134), .ref (C.X.1 + 135), .ref (C.X.1 + 136), .ref (C.X.1 + 137), .ref (C.X.1 + 138), .int 3, .int 8, .int 20, .ref (C.X.1 + 139), .ref (C.X.1 + 140), .ref (C.X.1 + 141), .ref (C.X.1 + 142), .ref (C.X.1 + 143), .int 0, .int 0, .int 0, .int 0, .int 0, .int 0, .int 0, .int (-1), .ref (C.X.1 + 144), .ref (C.X.1 + 145), .ref (C.X.1 + 146), .ref (C.X.1 + 147), .ref (C.X.1 + 148), .ref (C.X.1 + 149), .ref (C.X.1 + 150), .ref (C.X.1 + 151), .ref (C.X.1 + 152), .ref (C.X.1 + 153), .ref (C.X.1 + 154), .ref (C.X.1 + 155), .ref (C.X.1 + 156), .ref (C.X.1 + 157), .ref (C.X.1 + 158), .ref (C.X.1 + 159), .ref (C.X.1 + 160), .ref (C.X.1 + 161), .ref (C.X.1 + 162), .ref (C.X.1 + 163), .ref (C.X.1 + 164), .ref (C.X.1 + 165), .ref (C.X.1 + 166), .ref (C.X.1 + 167), .ref (C.X.1 + 168), .ref (C.X.1 + 169), .ref (C.X.1 + 170), .ref (C.X.1 + 171), .ref (C.X.1 + 172), .ref (C.X.1 + 173), .int 0, .ref (C.X.1 + 174), .int 0, .int 0, .int 0, .ref (C.X.1 + 175), .int 0, .long 0, .long 0, .int 0, .int 0, .int 0, .ref (C.X.1 + 176), .ref (C.X.1 + 177), .ref (C.X.1 + 178), .ref (C.X.1 + 179), .ref (C.X.1 + 180), .int (-1), .int 0, .int 0, .int 0, .int 0, .ref (C.X.1 + 181), .long 0, .long 0, .long 0, .long 0, .int 0, .int (-1)]) rfl rfl dX12_init_1011 ?_
  refine ze_S (e2 := (va_up (va_up (va_up (va_up (va_up (va_up (va_up (va_up (va_up (va_up (va_up (va_up (va_up (va_up (va_up (va_up (va_up (va_up (va_up (va_up (va_up (va_up (va_up (va_up (va_up (va_up (va_up (va_up (va_up (va_up (va_up (va_up (va_up (va_up (va_up (va_up (va_up (va_up (va_up (va_up (va_up (va_up (va_up (va_up (va_up (va_up (va_up (va_up (va_up (va_up (va_up (va_up (va_up (va_up e 129 (.inl (C.X.2.2.1 0, 12, .inl (upd (upd (upd (upd (upd (upd (upd (upd (upd (upd (upd (upd (fun _ => 0) 0 6) 1 2) 2 10) 3 2) 4 10) 5 2) 6 5) 7 5) 8 2) 9 5) 10 2) 11 5)))) 130 (.inl (C.X.2.2.1 0, 13, .inl (fun _ => 0)))) 131 (.inl (C.X.2.2.1 0, 13, .inl (fun _ => 0)))) 132 (.inl (C.X.2.2.1 0, 13, .inl (fun _ => 0)))) 133 (.inl (C.X.2.2.1 0, 601, .inl (fun _ => 0)))) 134 (.inl (C.X.2.2.1 0, 601, .inl (fun _ => 0)))) 135 (.inl (C.X.2.2.1 0, 20, .inl (fun _ => 0)))) 136 (.inl (C.X.2.2.1 0, 240, .inl (fun _ => 0)))) 137 (.inl (C.X.2.2.1 0, 240, .inl (fun _ => 0)))) 138 (.inl (C.X.2.2.1 0, 6, .inl (upd (upd (upd (upd (upd (upd (fun _ => 0) 0 1) 1 12) 2 240) 3 4800) 4 24000) 5 240000)))) 139 (.inl (C.X.2.2.1 0, 169, .inl (fun _ => 0)))) 140 (.inl (C.X.2.2.1 0, 11264, .inl (fun _ => 0)))) 141 (.inl (C.X.2.2.1 0, 10, .inl (fun _ => 0)))) 142 (.inl (C.X.2.2.1 0, 100, .inl (fun _ => 0)))) 143 (.inl (C.X.2.2.1 0, 600, .inl (fun _ => 0)))) 144 (.inl (C.X.2.2.1 2, 4, .inl (upd (upd (upd (upd (fun _ => 0) 0 102) 1 97) 2 114) 3 109)))) 145 (.inl (C.X.2.2.1 2, 8, .inl (upd (upd (upd (upd (upd (upd (upd (upd (fun _ => 0) 0 98) 1 108) 2 97) 3 110) 4 99) 5 104) 6 101) 7 100)))) 146 (.inl (C.X.2.2.1 2, 5, .inl (upd (upd (upd (upd (upd (fun _ => 0) 0 97) 1 108) 2 108) 3 111) 4 119)))) 147 (.inl (C.X.2.2.1 2, 6, .inl (upd (upd (upd (upd (upd (upd (fun _ => 0) 0 112) 1 97) 2 114) 3 100) 4 111) 5 110)))) 148 (.inl (C.X.2.2.1 2, 5, .inl (upd (upd (upd (upd (upd (fun _ => 0) 0 115) 1 112) 2 108) 3 105) 4 116)))) 149 (.inl (C.X.2.2.1 2, 2, .inl (upd (upd (fun _ => 0) 0 105) 1 110)))) 150 (.inl (C.X.2.2.1 2, 3, .inl (upd (upd (upd (fun _ => 0) 0 102) 1 111) 2 114)))) 151 (.inl (C.X.2.2.1 2, 2, .inl (upd (upd (fun _ => 0) 0 111) 1 114)))) 152 (.inl (C.X.2.2.1 2, 3, .inl (upd (upd (upd (fun _ => 0) 0 97) 1 110) 2 100)))) 153 (.inl (C.X.2.2.1 2, 3, .inl (upd (upd (upd (fun _ => 0) 0 110) 1 111) 2 116)))) 154 (.inl (C.X.2.2.1 2, 3, .inl (upd (upd (upd (fun _ => 0) 0 97) 1 108) 2 108)))) 155 (.inl (C.X.2.2.1 2, 5, .inl (upd (upd (upd (upd (upd (fun _ => 0) 0 115) 1 104) 2 105) 3 114) 4 101)))) 156 (.inl (C.X.2.2.1 2, 5, .inl (upd (upd (upd (upd (upd (fun _ => 0) 0 112) 1 101) 2 110) 3 99) 4 101)))) 157 (.inl (C.X.2.2.1 2, 9, .inl (upd (upd (upd (upd (upd (upd (upd (upd (upd (fun _ => 0) 0 115) 1 104) 2 105) 3 108) 4 108) 5 105) 6 110) 7 103) 8 115)))) 158 (.inl (C.X.2.2.1 2, 6, .inl (upd (upd (upd (upd (upd (upd (fun _ => 0) 0 112) 1 111) 2 117) 3 110) 4 100) 5 115)))) 159 (.inl (C.X.2.2.1 2, 4, .inl (upd (upd (upd (upd (fun _ => 0) 0 116) 1 101) 2 114) 3 109)))) 160 (.inl (C.X.2.2.1 2, 4, .inl (upd (upd (upd (upd (fun _ => 0) 0 121) 1 101) 2 97) 3 114)))) 161 (.inl (C.X.2.2.1 2, 4, .inl (upd (upd (upd (upd (fun _ => 0) 0 100) 1 101) 2 98) 3 116)))) 162 (.inl (C.X.2.2.1 2, 4, .inl (upd (upd (upd (upd (fun _ => 0) 0 112) 1 97) 2 105) 3 100)))) 163 (.inl (C.X.2.2.1 2, 3, .inl (upd (upd (upd (fun _ => 0) 0 109) 1 105) 2 110)))) 164 (.inl (C.X.2.2.1 2, 3, .inl (upd (upd (upd (fun _ => 0) 0 109) 1 97) 2 120)))) 165 (.inl (C.X.2.2.1 0, 201, .inl (fun _ => 0)))) 166 (.inl (C.X.2.2.1 0, 4824, .inl (fun _ => 0)))) 167 (.inl (C.X.2.2.1 3, 4824, .inl (fun _ => 0)))) 168 (.inl (C.X.2.2.1 0, 4824, .inl (fun _ => 0)))) 169 (.inl (C.X.2.2.1 0, 4824, .inl (fun _ => 0)))) 170 (.inl (C.X.2.2.1 0, 4824, .inl (fun _ => 0)))) 171 (.inl (C.X.2.2.1 0, 4824, .inl (fun _ => 0)))) 172 (.inl (C.X.2.2.1 0, 4824, .inl (fun _ => 0)))) 173 (.inl (C.X.2.2.1 0, 128640, .inl (fun _ => 0)))) 174 (.inl (C.X.2.2.1 0, 700, .inl (fun _ => 0)))) 175 (.inl (C.X.2.2.1 1, 700, .inr (.inl (fun _ => 0))))) 176 (.inl (C.X.2.2.1 0, 201, .inl (fun _ => 0)))) 177 (.inl (C.X.2.2.1 0, 201, .inl (fun _ => 0)))) 178 (.inl (C.X.2.2.1 0, 201, .inl (fun _ => 0)))) 179 (.inl (C.X.2.2.1 0, 201, .inl (fun _ => 0)))) 180 (.inl (C.X.2.2.1 0, 201, .inl (fun _ => 0)))) 181 (.inl (C.X.2.2.1 1, 60, .inr (.inl (fun _ => 0))))) 128 (.inr (12, [.ref (C.X.1 + 129), .ref (C.X.1 + 130), .ref (C.X.1 + 131), .ref (C.X.1 + 132), .ref (C.X.1 + 133), .ref (C.X.1 + 134), .ref (C.X.1 + 135), .ref (C.X.1 + 136), .ref (C.X.1 + 137), .ref (C.X.1 + 138), .int 3, .int 8, .int 20, .ref (C.X.1 + 139), .ref (C.X.1 + 140), .ref (C.X.1 + 141), .ref (C.X.1 + 142), .ref (C.X.1 + 143), .int 0, .int 0, .int 0, .int 0, .int 0, .int 0, .int 0, .int (-1), .ref (C.X.1 + 144), .ref (C.X.1 + 145), .ref (C.X.1 + 146), .ref (C.X.1 + 147), .ref (C.X.1 + 148), .ref (C.X.1 + 149), .ref (C.X.1 + 150), .ref (C.X.1 + 151), .ref (C.X.1 + 152), .ref (C.X.1 + 153), .ref (C.X.1 + 154), .ref (C.X.1 + 155), .ref (C.X.1 + 156), .ref (C.X.1 + 157), .ref (C.X.1 + 158), .ref (C.X.1 + 159), .ref (C.X.1 + 160), .ref (C.X.1 + 161), .ref (C.X.1 + 162), .ref (C.X.1 + 163), .ref (C.X.1 + 164), .ref (C.X.1 + 165), .ref (C.X.1 + 166), .ref (C.X.1 + 167), .ref (C.X.1 + 168), .ref (C.X.1 + 169), .ref (C.X.1 + 170), .ref (C.X.1 + 171), .ref (C.X.1 + 172), .ref (C.X.1 + 173), .int 0, .ref (C.X.1 + 174), .int 0, .int 0, .int 0, .ref (C.X.1 + 175), .int 0, .long 0, .long 0, .int 0, .int 0, .int 0, .ref (C.X.1 + 176), .ref (C.X.1 + 177), .ref (C.X.1 + 178), .ref (C.X.1 + 179), .ref (C.X.1 + 180), .int (-1), .int 0, .int 0, .int 0, .int 0, .ref (C.X.1 + 181), .long 0, .long 0, .long 0, .long 0, .int 0, .int (-1)])))) (by
    funext i
    by_cases h129 : i = 129
    · subst h129
      rfl
    by_cases h130 : i = 130
    · subst h130
      rfl
    by_cases h131 : i = 131
    · subst h131
      rfl
    by_cases h132 : i = 132
    · subst h132
      rfl
    by_cases h133 : i = 133
    · subst h133
      rfl
    by_cases h134 : i = 134
    · subst h134
      rfl
    by_cases h135 : i = 135
    · subst h135
      rfl
    by_cases h136 : i = 136
    · subst h136
      rfl
    by_cases h137 : i = 137
    · subst h137
      rfl
    by_cases h138 : i = 138
    · subst h138
      rfl
    by_cases h139 : i = 139
    · subst h139
      rfl
    by_cases h140 : i = 140
    · subst h140
      rfl
    by_cases h141 : i = 141
    · subst h141
      rfl
    by_cases h142 : i = 142
    · subst h142
      rfl
    by_cases h143 : i = 143
    · subst h143
      rfl
    by_cases h144 : i = 144
    · subst h144
      rfl
    by_cases h145 : i = 145
    · subst h145
      rfl
    by_cases h146 : i = 146
    · subst h146
      rfl
    by_cases h147 : i = 147
    · subst h147
      rfl
    by_cases h148 : i = 148
    · subst h148
      rfl
    by_cases h149 : i = 149
    · subst h149
      rfl
    by_cases h150 : i = 150
    · subst h150
      rfl
    by_cases h151 : i = 151
    · subst h151
      rfl
    by_cases h152 : i = 152
    · subst h152
      rfl
    by_cases h153 : i = 153
    · subst h153
      rfl
    by_cases h154 : i = 154
    · subst h154
      rfl
    by_cases h155 : i = 155
    · subst h155
      rfl
    by_cases h156 : i = 156
    · subst h156
      rfl
    by_cases h157 : i = 157
    · subst h157
      rfl
    by_cases h158 : i = 158
    · subst h158
      rfl
    by_cases h159 : i = 159
    · subst h159
      rfl
    by_cases h160 : i = 160
    · subst h160
      rfl
    by_cases h161 : i = 161
    · subst h161
      rfl
    by_cases h162 : i = 162
    · subst h162
      rfl
    by_cases h163 : i = 163
    · subst h163
      rfl
    by_cases h164 : i = 164
    · subst h164
      rfl
    by_cases h165 : i = 165
    · subst h165
      rfl
    by_cases h166 : i = 166
    · subst h166
      rfl
    by_cases h167 : i = 167
    · subst h167
      rfl
    by_cases h168 : i = 168
    · subst h168
      rfl
    by_cases h169 : i = 169
    · subst h169
      rfl
    by_cases h170 : i = 170
    · subst h170
      rfl
    by_cases h171 : i = 171
    · subst h171
      rfl
    by_cases h172 : i = 172
    · subst h172
      rfl
    by_cases h173 : i = 173
    · subst h173
      rfl
    by_cases h174 : i = 174
    · subst h174
      rfl
    by_cases h175 : i = 175
    · subst h175
      rfl
    by_cases h176 : i = 176
    · subst h176
      rfl
    by_cases h177 : i = 177
    · subst h177
      rfl
    by_cases h178 : i = 178
    · subst h178
      rfl
    by_cases h179 : i = 179
    · subst h179
      rfl
    by_cases h180 : i = 180
    · subst h180
      rfl
    by_cases h181 : i = 181
    · subst h181
      rfl
    by_cases h128 : i = 128
    · subst h128
      rfl
    simp only [va_up, h129, h130, h131, h132, h133, h134, h135, h136, h137, h138, h139, h140, h141, h142, h143, h144, h145, h146, h147, h148, h149, h150, h151, h152, h153, h154, h155, h156, h157, h158, h159, h160, h161, h162, h163, h164, h165, h166, h167, h168, h169, h170, h171, h172, h173, h174, h175, h176, h177, h178, h179, h180, h181, h128, if_false]) ?_
  exact ze_vret E hQ rfl ⟨by decide, by decide⟩ dX12_init_1014
