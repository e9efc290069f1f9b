theorem d_L_law_0 : decode c_L_law 0 = .ok (.new 8, 3) := by decide +kernel
theorem d_L_law_3 : decode c_L_law 3 = .ok (.dup, 1) := by decide +kernel
theorem d_L_law_4 : decode c_L_law 4 = .ok (.aload_n 0, 1) := by decide +kernel
theorem d_L_law_5 : decode c_L_law 5 = .ok (.iconst 0, 1) := by decide +kernel
theorem d_L_law_6 : decode c_L_law 6 = .ok (.invokestatic 45, 3) := by decide +kernel
theorem d_L_law_9 : decode c_L_law 9 = .ok (.invokespecial 51, 3) := by decide +kernel
theorem d_L_law_12 : decode c_L_law 12 = .ok (.astore_n 1, 1) := by decide +kernel
theorem d_L_law_13 : decode c_L_law 13 = .ok (.new 54, 3) := by decide +kernel
theorem d_L_law_16 : decode c_L_law 16 = .ok (.dup, 1) := by decide +kernel
theorem d_L_law_17 : decode c_L_law 17 = .ok (.aload_n 0, 1) := by decide +kernel
theorem d_L_law_18 : decode c_L_law 18 = .ok (.iconst 0, 1) := by decide +kernel
theorem d_L_law_19 : decode c_L_law 19 = .ok (.invokestatic 45, 3) := by decide +kernel
theorem d_L_law_22 : decode c_L_law 22 = .ok (.invokespecial 56, 3) := by decide +kernel
theorem d_L_law_25 : decode c_L_law 25 = .ok (.astore_n 2, 1) := by decide +kernel
theorem d_L_law_26 : decode c_L_law 26 = .ok (.iconst 1, 1) := by decide +kernel
theorem d_L_law_27 : decode c_L_law 27 = .ok (.newarray .long, 2) := by decide +kernel
theorem d_L_law_29 : decode c_L_law 29 = .ok (.astore_n 3, 1) := by decide +kernel
theorem d_L_law_30 : decode c_L_law 30 = .ok (.iconst 1, 1) := by decide +kernel
theorem d_L_law_31 : decode c_L_law 31 = .ok (.istore 4, 2) := by decide +kernel
theorem d_L_law_33 : decode c_L_law 33 = .ok (.iload 4, 2) := by decide +kernel
theorem d_L_law_35 : decode c_L_law 35 = .ok (.aload_n 0, 1) := by decide +kernel
theorem d_L_law_36 : decode c_L_law 36 = .ok (.arraylength, 1) := by decide +kernel
theorem d_L_law_37 : decode c_L_law 37 = .ok (.bipush 8, 2) := by decide +kernel
theorem d_L_law_39 : decode c_L_law 39 = .ok (.isub, 1) := by decide +kernel
theorem d_L_law_40 : decode c_L_law 40 = .ok (.if_icmp .gt 842, 3) := by decide +kernel
theorem d_L_law_43 : decode c_L_law 43 = .ok (.aload_n 0, 1) := by decide +kernel
theorem d_L_law_44 : decode c_L_law 44 = .ok (.iload 4, 2) := by decide +kernel
theorem d_L_law_46 : decode c_L_law 46 = .ok (.iaload, 1) := by decide +kernel
theorem d_L_law_47 : decode c_L_law 47 = .ok (.bipush 15, 2) := by decide +kernel
theorem d_L_law_49 : decode c_L_law 49 = .ok (.iand, 1) := by decide +kernel
theorem d_L_law_50 : decode c_L_law 50 = .ok (.tableswitch 826 0 9 #[54, 67, 166, 290, 414, 585, 648, 703, 758, 813], 54) := by decide +kernel
theorem d_L_law_104 : decode c_L_law 104 = .ok (.aload_n 1, 1) := by decide +kernel
theorem d_L_law_105 : decode c_L_law 105 = .ok (.invokevirtual 57, 3) := by decide +kernel
theorem d_L_law_108 : decode c_L_law 108 = .ok (.aload_n 2, 1) := by decide +kernel
theorem d_L_law_109 : decode c_L_law 109 = .ok (.invokevirtual 61, 3) := by decide +kernel
theorem d_L_law_112 : decode c_L_law 112 = .ok (.if_icmp .eq 764, 3) := by decide +kernel
theorem d_L_law_115 : decode c_L_law 115 = .ok (.iconst 0, 1) := by decide +kernel
theorem d_L_law_116 : decode c_L_law 116 = .ok (.ireturn, 1) := by decide +kernel
theorem d_L_law_117 : decode c_L_law 117 = .ok (.aload_n 1, 1) := by decide +kernel
theorem d_L_law_118 : decode c_L_law 118 = .ok (.aload_n 0, 1) := by decide +kernel
theorem d_L_law_119 : decode c_L_law 119 = .ok (.iload 4, 2) := by decide +kernel
theorem d_L_law_121 : decode c_L_law 121 = .ok (.iconst 1, 1) := by decide +kernel
theorem d_L_law_122 : decode c_L_law 122 = .ok (.iadd, 1) := by decide +kernel
theorem d_L_law_123 : decode c_L_law 123 = .ok (.iaload, 1) := by decide +kernel
theorem d_L_law_124 : decode c_L_law 124 = .ok (.i2l, 1) := by decide +kernel
theorem d_L_law_125 : decode c_L_law 125 = .ok (.bipush 32, 2) := by decide +kernel
theorem d_L_law_127 : decode c_L_law 127 = .ok (.lshl, 1) := by decide +kernel
theorem d_L_law_128 : decode c_L_law 128 = .ok (.aload_n 0, 1) := by decide +kernel
theorem d_L_law_129 : decode c_L_law 129 = .ok (.iload 4, 2) := by decide +kernel
theorem d_L_law_131 : decode c_L_law 131 = .ok (.iconst 2, 1) := by decide +kernel
theorem d_L_law_132 : decode c_L_law 132 = .ok (.iadd, 1) := by decide +kernel
theorem d_L_law_133 : decode c_L_law 133 = .ok (.iaload, 1) := by decide +kernel
theorem d_L_law_134 : decode c_L_law 134 = .ok (.i2l, 1) := by decide +kernel
theorem d_L_law_135 : decode c_L_law 135 = .ok (.ldc2_w 62, 3) := by decide +kernel
theorem d_L_law_138 : decode c_L_law 138 = .ok (.land, 1) := by decide +kernel
theorem d_L_law_139 : decode c_L_law 139 = .ok (.lor, 1) := by decide +kernel
theorem d_L_law_140 : decode c_L_law 140 = .ok (.aload_n 0, 1) := by decide +kernel
theorem d_L_law_141 : decode c_L_law 141 = .ok (.iload 4, 2) := by decide +kernel
theorem d_L_law_143 : decode c_L_law 143 = .ok (.iconst 3, 1) := by decide +kernel
theorem d_L_law_144 : decode c_L_law 144 = .ok (.iadd, 1) := by decide +kernel
theorem d_L_law_145 : decode c_L_law 145 = .ok (.iaload, 1) := by decide +kernel
theorem d_L_law_146 : decode c_L_law 146 = .ok (.aload_n 3, 1) := by decide +kernel
theorem d_L_law_147 : decode c_L_law 147 = .ok (.invokestatic 64, 3) := by decide +kernel
theorem d_L_law_150 : decode c_L_law 150 = .ok (.istore 5, 2) := by decide +kernel
theorem d_L_law_152 : decode c_L_law 152 = .ok (.aload_n 2, 1) := by decide +kernel
theorem d_L_law_153 : decode c_L_law 153 = .ok (.aload_n 0, 1) := by decide +kernel
theorem d_L_law_154 : decode c_L_law 154 = .ok (.iload 4, 2) := by decide +kernel
theorem d_L_law_156 : decode c_L_law 156 = .ok (.iconst 1, 1) := by decide +kernel
theorem d_L_law_157 : decode c_L_law 157 = .ok (.iadd, 1) := by decide +kernel
theorem d_L_law_158 : decode c_L_law 158 = .ok (.iaload, 1) := by decide +kernel
theorem d_L_law_159 : decode c_L_law 159 = .ok (.i2l, 1) := by decide +kernel
theorem d_L_law_160 : decode c_L_law 160 = .ok (.bipush 32, 2) := by decide +kernel
theorem d_L_law_162 : decode c_L_law 162 = .ok (.lshl, 1) := by decide +kernel
theorem d_L_law_163 : decode c_L_law 163 = .ok (.aload_n 0, 1) := by decide +kernel
theorem d_L_law_164 : decode c_L_law 164 = .ok (.iload 4, 2) := by decide +kernel
theorem d_L_law_166 : decode c_L_law 166 = .ok (.iconst 2, 1) := by decide +kernel
theorem d_L_law_167 : decode c_L_law 167 = .ok (.iadd, 1) := by decide +kernel
theorem d_L_law_168 : decode c_L_law 168 = .ok (.iaload, 1) := by decide +kernel
theorem d_L_law_169 : decode c_L_law 169 = .ok (.i2l, 1) := by decide +kernel
theorem d_L_law_170 : decode c_L_law 170 = .ok (.ldc2_w 62, 3) := by decide +kernel
theorem d_L_law_173 : decode c_L_law 173 = .ok (.land, 1) := by decide +kernel
theorem d_L_law_174 : decode c_L_law 174 = .ok (.lor, 1) := by decide +kernel
theorem d_L_law_175 : decode c_L_law 175 = .ok (.aload_n 0, 1) := by decide +kernel
theorem d_L_law_176 : decode c_L_law 176 = .ok (.iload 4, 2) := by decide +kernel
theorem d_L_law_178 : decode c_L_law 178 = .ok (.iconst 3, 1) := by decide +kernel
theorem d_L_law_179 : decode c_L_law 179 = .ok (.iadd, 1) := by decide +kernel
theorem d_L_law_180 : decode c_L_law 180 = .ok (.iaload, 1) := by decide +kernel
theorem d_L_law_181 : decode c_L_law 181 = .ok (.invokevirtual 67, 3) := by decide +kernel
theorem d_L_law_184 : decode c_L_law 184 = .ok (.lstore 6, 2) := by decide +kernel
theorem d_L_law_186 : decode c_L_law 186 = .ok (.aload_n 2, 1) := by decide +kernel
theorem d_L_law_187 : decode c_L_law 187 = .ok (.invokevirtual 68, 3) := by decide +kernel
theorem d_L_law_190 : decode c_L_law 190 = .ok (.iload 5, 2) := by decide +kernel
theorem d_L_law_192 : decode c_L_law 192 = .ok (.if_icmp .eq 5, 3) := by decide +kernel
theorem d_L_law_195 : decode c_L_law 195 = .ok (.iconst 0, 1) := by decide +kernel
theorem d_L_law_196 : decode c_L_law 196 = .ok (.ireturn, 1) := by decide +kernel
theorem d_L_law_197 : decode c_L_law 197 = .ok (.iload 5, 2) := by decide +kernel
theorem d_L_law_199 : decode c_L_law 199 = .ok (.ifCond .ne 14, 3) := by decide +kernel
theorem d_L_law_202 : decode c_L_law 202 = .ok (.aload_n 3, 1) := by decide +kernel
theorem d_L_law_203 : decode c_L_law 203 = .ok (.iconst 0, 1) := by decide +kernel
theorem d_L_law_204 : decode c_L_law 204 = .ok (.laload, 1) := by decide +kernel
theorem d_L_law_205 : decode c_L_law 205 = .ok (.lload 6, 2) := by decide +kernel
theorem d_L_law_207 : decode c_L_law 207 = .ok (.lcmp, 1) := by decide +kernel
theorem d_L_law_208 : decode c_L_law 208 = .ok (.ifCond .eq 5, 3) := by decide +kernel
theorem d_L_law_211 : decode c_L_law 211 = .ok (.iconst 0, 1) := by decide +kernel
theorem d_L_law_212 : decode c_L_law 212 = .ok (.ireturn, 1) := by decide +kernel
theorem d_L_law_213 : decode c_L_law 213 = .ok (.goto 663, 3) := by decide +kernel
theorem d_L_law_216 : decode c_L_law 216 = .ok (.aload_n 1, 1) := by decide +kernel
theorem d_L_law_217 : decode c_L_law 217 = .ok (.aload_n 0, 1) := by decide +kernel
theorem d_L_law_218 : decode c_L_law 218 = .ok (.iload 4, 2) := by decide +kernel
theorem d_L_law_220 : decode c_L_law 220 = .ok (.iconst 1, 1) := by decide +kernel
theorem d_L_law_221 : decode c_L_law 221 = .ok (.iadd, 1) := by decide +kernel
theorem d_L_law_222 : decode c_L_law 222 = .ok (.iaload, 1) := by decide +kernel
theorem d_L_law_223 : decode c_L_law 223 = .ok (.i2l, 1) := by decide +kernel
theorem d_L_law_224 : decode c_L_law 224 = .ok (.bipush 32, 2) := by decide +kernel
theorem d_L_law_226 : decode c_L_law 226 = .ok (.lshl, 1) := by decide +kernel
theorem d_L_law_227 : decode c_L_law 227 = .ok (.aload_n 0, 1) := by decide +kernel
theorem d_L_law_228 : decode c_L_law 228 = .ok (.iload 4, 2) := by decide +kernel
theorem d_L_law_230 : decode c_L_law 230 = .ok (.iconst 2, 1) := by decide +kernel
theorem d_L_law_231 : decode c_L_law 231 = .ok (.iadd, 1) := by decide +kernel
theorem d_L_law_232 : decode c_L_law 232 = .ok (.iaload, 1) := by decide +kernel
theorem d_L_law_233 : decode c_L_law 233 = .ok (.i2l, 1) := by decide +kernel
theorem d_L_law_234 : decode c_L_law 234 = .ok (.ldc2_w 62, 3) := by decide +kernel
theorem d_L_law_237 : decode c_L_law 237 = .ok (.land, 1) := by decide +kernel
theorem d_L_law_238 : decode c_L_law 238 = .ok (.lor, 1) := by decide +kernel
theorem d_L_law_239 : decode c_L_law 239 = .ok (.aload_n 0, 1) := by decide +kernel
theorem d_L_law_240 : decode c_L_law 240 = .ok (.iload 4, 2) := by decide +kernel
theorem d_L_law_242 : decode c_L_law 242 = .ok (.iconst 3, 1) := by decide +kernel
theorem d_L_law_243 : decode c_L_law 243 = .ok (.iadd, 1) := by decide +kernel
theorem d_L_law_244 : decode c_L_law 244 = .ok (.iaload, 1) := by decide +kernel
theorem d_L_law_245 : decode c_L_law 245 = .ok (.aload_n 0, 1) := by decide +kernel
theorem d_L_law_246 : decode c_L_law 246 = .ok (.iload 4, 2) := by decide +kernel
theorem d_L_law_248 : decode c_L_law 248 = .ok (.iconst 4, 1) := by decide +kernel
theorem d_L_law_249 : decode c_L_law 249 = .ok (.iadd, 1) := by decide +kernel
theorem d_L_law_250 : decode c_L_law 250 = .ok (.iaload, 1) := by decide +kernel
theorem d_L_law_251 : decode c_L_law 251 = .ok (.i2l, 1) := by decide +kernel
theorem d_L_law_252 : decode c_L_law 252 = .ok (.bipush 32, 2) := by decide +kernel
theorem d_L_law_254 : decode c_L_law 254 = .ok (.lshl, 1) := by decide +kernel
theorem d_L_law_255 : decode c_L_law 255 = .ok (.aload_n 0, 1) := by decide +kernel
theorem d_L_law_256 : decode c_L_law 256 = .ok (.iload 4, 2) := by decide +kernel
theorem d_L_law_258 : decode c_L_law 258 = .ok (.iconst 5, 1) := by decide +kernel
theorem d_L_law_259 : decode c_L_law 259 = .ok (.iadd, 1) := by decide +kernel
theorem d_L_law_260 : decode c_L_law 260 = .ok (.iaload, 1) := by decide +kernel
theorem d_L_law_261 : decode c_L_law 261 = .ok (.i2l, 1) := by decide +kernel
theorem d_L_law_262 : decode c_L_law 262 = .ok (.ldc2_w 62, 3) := by decide +kernel
theorem d_L_law_265 : decode c_L_law 265 = .ok (.land, 1) := by decide +kernel
theorem d_L_law_266 : decode c_L_law 266 = .ok (.lor, 1) := by decide +kernel
theorem d_L_law_267 : decode c_L_law 267 = .ok (.invokestatic 71, 3) := by decide +kernel
theorem d_L_law_270 : decode c_L_law 270 = .ok (.istore 5, 2) := by decide +kernel
theorem d_L_law_272 : decode c_L_law 272 = .ok (.aload_n 2, 1) := by decide +kernel
theorem d_L_law_273 : decode c_L_law 273 = .ok (.aload_n 0, 1) := by decide +kernel
theorem d_L_law_274 : decode c_L_law 274 = .ok (.iload 4, 2) := by decide +kernel
theorem d_L_law_276 : decode c_L_law 276 = .ok (.iconst 1, 1) := by decide +kernel
theorem d_L_law_277 : decode c_L_law 277 = .ok (.iadd, 1) := by decide +kernel
theorem d_L_law_278 : decode c_L_law 278 = .ok (.iaload, 1) := by decide +kernel
theorem d_L_law_279 : decode c_L_law 279 = .ok (.i2l, 1) := by decide +kernel
theorem d_L_law_280 : decode c_L_law 280 = .ok (.bipush 32, 2) := by decide +kernel
theorem d_L_law_282 : decode c_L_law 282 = .ok (.lshl, 1) := by decide +kernel
theorem d_L_law_283 : decode c_L_law 283 = .ok (.aload_n 0, 1) := by decide +kernel
theorem d_L_law_284 : decode c_L_law 284 = .ok (.iload 4, 2) := by decide +kernel
theorem d_L_law_286 : decode c_L_law 286 = .ok (.iconst 2, 1) := by decide +kernel
theorem d_L_law_287 : decode c_L_law 287 = .ok (.iadd, 1) := by decide +kernel
theorem d_L_law_288 : decode c_L_law 288 = .ok (.iaload, 1) := by decide +kernel
theorem d_L_law_289 : decode c_L_law 289 = .ok (.i2l, 1) := by decide +kernel
theorem d_L_law_290 : decode c_L_law 290 = .ok (.ldc2_w 62, 3) := by decide +kernel
theorem d_L_law_293 : decode c_L_law 293 = .ok (.land, 1) := by decide +kernel
theorem d_L_law_294 : decode c_L_law 294 = .ok (.lor, 1) := by decide +kernel
theorem d_L_law_295 : decode c_L_law 295 = .ok (.aload_n 0, 1) := by decide +kernel
theorem d_L_law_296 : decode c_L_law 296 = .ok (.iload 4, 2) := by decide +kernel
theorem d_L_law_298 : decode c_L_law 298 = .ok (.iconst 3, 1) := by decide +kernel
theorem d_L_law_299 : decode c_L_law 299 = .ok (.iadd, 1) := by decide +kernel
theorem d_L_law_300 : decode c_L_law 300 = .ok (.iaload, 1) := by decide +kernel
theorem d_L_law_301 : decode c_L_law 301 = .ok (.aload_n 0, 1) := by decide +kernel
theorem d_L_law_302 : decode c_L_law 302 = .ok (.iload 4, 2) := by decide +kernel
theorem d_L_law_304 : decode c_L_law 304 = .ok (.iconst 4, 1) := by decide +kernel
theorem d_L_law_305 : decode c_L_law 305 = .ok (.iadd, 1) := by decide +kernel
theorem d_L_law_306 : decode c_L_law 306 = .ok (.iaload, 1) := by decide +kernel
theorem d_L_law_307 : decode c_L_law 307 = .ok (.i2l, 1) := by decide +kernel
theorem d_L_law_308 : decode c_L_law 308 = .ok (.bipush 32, 2) := by decide +kernel
theorem d_L_law_310 : decode c_L_law 310 = .ok (.lshl, 1) := by decide +kernel
theorem d_L_law_311 : decode c_L_law 311 = .ok (.aload_n 0, 1) := by decide +kernel
theorem d_L_law_312 : decode c_L_law 312 = .ok (.iload 4, 2) := by decide +kernel
theorem d_L_law_314 : decode c_L_law 314 = .ok (.iconst 5, 1) := by decide +kernel
theorem d_L_law_315 : decode c_L_law 315 = .ok (.iadd, 1) := by decide +kernel
theorem d_L_law_316 : decode c_L_law 316 = .ok (.iaload, 1) := by decide +kernel
theorem d_L_law_317 : decode c_L_law 317 = .ok (.i2l, 1) := by decide +kernel
theorem d_L_law_318 : decode c_L_law 318 = .ok (.ldc2_w 62, 3) := by decide +kernel
theorem d_L_law_321 : decode c_L_law 321 = .ok (.land, 1) := by decide +kernel
theorem d_L_law_322 : decode c_L_law 322 = .ok (.lor, 1) := by decide +kernel
theorem d_L_law_323 : decode c_L_law 323 = .ok (.invokevirtual 74, 3) := by decide +kernel
theorem d_L_law_326 : decode c_L_law 326 = .ok (.aload_n 2, 1) := by decide +kernel
theorem d_L_law_327 : decode c_L_law 327 = .ok (.invokevirtual 68, 3) := by decide +kernel
theorem d_L_law_330 : decode c_L_law 330 = .ok (.iload 5, 2) := by decide +kernel
theorem d_L_law_332 : decode c_L_law 332 = .ok (.if_icmp .eq 5, 3) := by decide +kernel
theorem d_L_law_335 : decode c_L_law 335 = .ok (.iconst 0, 1) := by decide +kernel
theorem d_L_law_336 : decode c_L_law 336 = .ok (.ireturn, 1) := by decide +kernel
theorem d_L_law_337 : decode c_L_law 337 = .ok (.goto 539, 3) := by decide +kernel
theorem d_L_law_340 : decode c_L_law 340 = .ok (.aload_n 1, 1) := by decide +kernel
theorem d_L_law_341 : decode c_L_law 341 = .ok (.aload_n 0, 1) := by decide +kernel
theorem d_L_law_342 : decode c_L_law 342 = .ok (.iload 4, 2) := by decide +kernel
theorem d_L_law_344 : decode c_L_law 344 = .ok (.iconst 1, 1) := by decide +kernel
theorem d_L_law_345 : decode c_L_law 345 = .ok (.iadd, 1) := by decide +kernel
theorem d_L_law_346 : decode c_L_law 346 = .ok (.iaload, 1) := by decide +kernel
theorem d_L_law_347 : decode c_L_law 347 = .ok (.i2l, 1) := by decide +kernel
theorem d_L_law_348 : decode c_L_law 348 = .ok (.bipush 32, 2) := by decide +kernel
theorem d_L_law_350 : decode c_L_law 350 = .ok (.lshl, 1) := by decide +kernel
theorem d_L_law_351 : decode c_L_law 351 = .ok (.aload_n 0, 1) := by decide +kernel
theorem d_L_law_352 : decode c_L_law 352 = .ok (.iload 4, 2) := by decide +kernel
theorem d_L_law_354 : decode c_L_law 354 = .ok (.iconst 2, 1) := by decide +kernel
theorem d_L_law_355 : decode c_L_law 355 = .ok (.iadd, 1) := by decide +kernel
theorem d_L_law_356 : decode c_L_law 356 = .ok (.iaload, 1) := by decide +kernel
theorem d_L_law_357 : decode c_L_law 357 = .ok (.i2l, 1) := by decide +kernel
theorem d_L_law_358 : decode c_L_law 358 = .ok (.ldc2_w 62, 3) := by decide +kernel
theorem d_L_law_361 : decode c_L_law 361 = .ok (.land, 1) := by decide +kernel
theorem d_L_law_362 : decode c_L_law 362 = .ok (.lor, 1) := by decide +kernel
theorem d_L_law_363 : decode c_L_law 363 = .ok (.aload_n 0, 1) := by decide +kernel
theorem d_L_law_364 : decode c_L_law 364 = .ok (.iload 4, 2) := by decide +kernel
theorem d_L_law_366 : decode c_L_law 366 = .ok (.iconst 3, 1) := by decide +kernel
theorem d_L_law_367 : decode c_L_law 367 = .ok (.iadd, 1) := by decide +kernel
theorem d_L_law_368 : decode c_L_law 368 = .ok (.iaload, 1) := by decide +kernel
theorem d_L_law_369 : decode c_L_law 369 = .ok (.i2l, 1) := by decide +kernel
theorem d_L_law_370 : decode c_L_law 370 = .ok (.bipush 32, 2) := by decide +kernel
theorem d_L_law_372 : decode c_L_law 372 = .ok (.lshl, 1) := by decide +kernel
theorem d_L_law_373 : decode c_L_law 373 = .ok (.aload_n 0, 1) := by decide +kernel
theorem d_L_law_374 : decode c_L_law 374 = .ok (.iload 4, 2) := by decide +kernel
theorem d_L_law_376 : decode c_L_law 376 = .ok (.iconst 4, 1) := by decide +kernel
theorem d_L_law_377 : decode c_L_law 377 = .ok (.iadd, 1) := by decide +kernel
theorem d_L_law_378 : decode c_L_law 378 = .ok (.iaload, 1) := by decide +kernel
theorem d_L_law_379 : decode c_L_law 379 = .ok (.i2l, 1) := by decide +kernel
theorem d_L_law_380 : decode c_L_law 380 = .ok (.ldc2_w 62, 3) := by decide +kernel
theorem d_L_law_383 : decode c_L_law 383 = .ok (.land, 1) := by decide +kernel
theorem d_L_law_384 : decode c_L_law 384 = .ok (.lor, 1) := by decide +kernel
theorem d_L_law_385 : decode c_L_law 385 = .ok (.aload_n 0, 1) := by decide +kernel
theorem d_L_law_386 : decode c_L_law 386 = .ok (.iload 4, 2) := by decide +kernel
theorem d_L_law_388 : decode c_L_law 388 = .ok (.iconst 5, 1) := by decide +kernel
theorem d_L_law_389 : decode c_L_law 389 = .ok (.iadd, 1) := by decide +kernel
theorem d_L_law_390 : decode c_L_law 390 = .ok (.iaload, 1) := by decide +kernel
theorem d_L_law_391 : decode c_L_law 391 = .ok (.invokestatic 75, 3) := by decide +kernel
theorem d_L_law_394 : decode c_L_law 394 = .ok (.istore 5, 2) := by decide +kernel
theorem d_L_law_396 : decode c_L_law 396 = .ok (.aload_n 2, 1) := by decide +kernel
theorem d_L_law_397 : decode c_L_law 397 = .ok (.aload_n 0, 1) := by decide +kernel
theorem d_L_law_398 : decode c_L_law 398 = .ok (.iload 4, 2) := by decide +kernel
theorem d_L_law_400 : decode c_L_law 400 = .ok (.iconst 1, 1) := by decide +kernel
theorem d_L_law_401 : decode c_L_law 401 = .ok (.iadd, 1) := by decide +kernel
theorem d_L_law_402 : decode c_L_law 402 = .ok (.iaload, 1) := by decide +kernel
theorem d_L_law_403 : decode c_L_law 403 = .ok (.i2l, 1) := by decide +kernel
theorem d_L_law_404 : decode c_L_law 404 = .ok (.bipush 32, 2) := by decide +kernel
theorem d_L_law_406 : decode c_L_law 406 = .ok (.lshl, 1) := by decide +kernel
theorem d_L_law_407 : decode c_L_law 407 = .ok (.aload_n 0, 1) := by decide +kernel
theorem d_L_law_408 : decode c_L_law 408 = .ok (.iload 4, 2) := by decide +kernel
theorem d_L_law_410 : decode c_L_law 410 = .ok (.iconst 2, 1) := by decide +kernel
theorem d_L_law_411 : decode c_L_law 411 = .ok (.iadd, 1) := by decide +kernel
theorem d_L_law_412 : decode c_L_law 412 = .ok (.iaload, 1) := by decide +kernel
theorem d_L_law_413 : decode c_L_law 413 = .ok (.i2l, 1) := by decide +kernel
theorem d_L_law_414 : decode c_L_law 414 = .ok (.ldc2_w 62, 3) := by decide +kernel
theorem d_L_law_417 : decode c_L_law 417 = .ok (.land, 1) := by decide +kernel
theorem d_L_law_418 : decode c_L_law 418 = .ok (.lor, 1) := by decide +kernel
theorem d_L_law_419 : decode c_L_law 419 = .ok (.aload_n 0, 1) := by decide +kernel
theorem d_L_law_420 : decode c_L_law 420 = .ok (.iload 4, 2) := by decide +kernel
theorem d_L_law_422 : decode c_L_law 422 = .ok (.iconst 3, 1) := by decide +kernel
theorem d_L_law_423 : decode c_L_law 423 = .ok (.iadd, 1) := by decide +kernel
theorem d_L_law_424 : decode c_L_law 424 = .ok (.iaload, 1) := by decide +kernel
theorem d_L_law_425 : decode c_L_law 425 = .ok (.i2l, 1) := by decide +kernel
theorem d_L_law_426 : decode c_L_law 426 = .ok (.bipush 32, 2) := by decide +kernel
theorem d_L_law_428 : decode c_L_law 428 = .ok (.lshl, 1) := by decide +kernel
theorem d_L_law_429 : decode c_L_law 429 = .ok (.aload_n 0, 1) := by decide +kernel
theorem d_L_law_430 : decode c_L_law 430 = .ok (.iload 4, 2) := by decide +kernel
theorem d_L_law_432 : decode c_L_law 432 = .ok (.iconst 4, 1) := by decide +kernel
theorem d_L_law_433 : decode c_L_law 433 = .ok (.iadd, 1) := by decide +kernel
theorem d_L_law_434 : decode c_L_law 434 = .ok (.iaload, 1) := by decide +kernel
theorem d_L_law_435 : decode c_L_law 435 = .ok (.i2l, 1) := by decide +kernel
theorem d_L_law_436 : decode c_L_law 436 = .ok (.ldc2_w 62, 3) := by decide +kernel
theorem d_L_law_439 : decode c_L_law 439 = .ok (.land, 1) := by decide +kernel
theorem d_L_law_440 : decode c_L_law 440 = .ok (.lor, 1) := by decide +kernel
theorem d_L_law_441 : decode c_L_law 441 = .ok (.aload_n 0, 1) := by decide +kernel
theorem d_L_law_442 : decode c_L_law 442 = .ok (.iload 4, 2) := by decide +kernel
theorem d_L_law_444 : decode c_L_law 444 = .ok (.iconst 5, 1) := by decide +kernel
theorem d_L_law_445 : decode c_L_law 445 = .ok (.iadd, 1) := by decide +kernel
theorem d_L_law_446 : decode c_L_law 446 = .ok (.iaload, 1) := by decide +kernel
theorem d_L_law_447 : decode c_L_law 447 = .ok (.invokevirtual 78, 3) := by decide +kernel
theorem d_L_law_450 : decode c_L_law 450 = .ok (.aload_n 2, 1) := by decide +kernel
theorem d_L_law_451 : decode c_L_law 451 = .ok (.invokevirtual 68, 3) := by decide +kernel
theorem d_L_law_454 : decode c_L_law 454 = .ok (.iload 5, 2) := by decide +kernel
theorem d_L_law_456 : decode c_L_law 456 = .ok (.if_icmp .eq 5, 3) := by decide +kernel
theorem d_L_law_459 : decode c_L_law 459 = .ok (.iconst 0, 1) := by decide +kernel
theorem d_L_law_460 : decode c_L_law 460 = .ok (.ireturn, 1) := by decide +kernel
theorem d_L_law_461 : decode c_L_law 461 = .ok (.goto 415, 3) := by decide +kernel
theorem d_L_law_464 : decode c_L_law 464 = .ok (.aload_n 1, 1) := by decide +kernel
theorem d_L_law_465 : decode c_L_law 465 = .ok (.aload_n 0, 1) := by decide +kernel
theorem d_L_law_466 : decode c_L_law 466 = .ok (.iload 4, 2) := by decide +kernel
theorem d_L_law_468 : decode c_L_law 468 = .ok (.iconst 1, 1) := by decide +kernel
theorem d_L_law_469 : decode c_L_law 469 = .ok (.iadd, 1) := by decide +kernel
theorem d_L_law_470 : decode c_L_law 470 = .ok (.iaload, 1) := by decide +kernel
theorem d_L_law_471 : decode c_L_law 471 = .ok (.aload_n 0, 1) := by decide +kernel
theorem d_L_law_472 : decode c_L_law 472 = .ok (.iload 4, 2) := by decide +kernel
theorem d_L_law_474 : decode c_L_law 474 = .ok (.iconst 2, 1) := by decide +kernel
theorem d_L_law_475 : decode c_L_law 475 = .ok (.iadd, 1) := by decide +kernel
theorem d_L_law_476 : decode c_L_law 476 = .ok (.iaload, 1) := by decide +kernel
theorem d_L_law_477 : decode c_L_law 477 = .ok (.aload_n 0, 1) := by decide +kernel
theorem d_L_law_478 : decode c_L_law 478 = .ok (.iload 4, 2) := by decide +kernel
theorem d_L_law_480 : decode c_L_law 480 = .ok (.iconst 3, 1) := by decide +kernel
theorem d_L_law_481 : decode c_L_law 481 = .ok (.iadd, 1) := by decide +kernel
theorem d_L_law_482 : decode c_L_law 482 = .ok (.iaload, 1) := by decide +kernel
theorem d_L_law_483 : decode c_L_law 483 = .ok (.i2l, 1) := by decide +kernel
theorem d_L_law_484 : decode c_L_law 484 = .ok (.bipush 32, 2) := by decide +kernel
theorem d_L_law_486 : decode c_L_law 486 = .ok (.lshl, 1) := by decide +kernel
theorem d_L_law_487 : decode c_L_law 487 = .ok (.aload_n 0, 1) := by decide +kernel
theorem d_L_law_488 : decode c_L_law 488 = .ok (.iload 4, 2) := by decide +kernel
theorem d_L_law_490 : decode c_L_law 490 = .ok (.iconst 4, 1) := by decide +kernel
theorem d_L_law_491 : decode c_L_law 491 = .ok (.iadd, 1) := by decide +kernel
theorem d_L_law_492 : decode c_L_law 492 = .ok (.iaload, 1) := by decide +kernel
theorem d_L_law_493 : decode c_L_law 493 = .ok (.i2l, 1) := by decide +kernel
theorem d_L_law_494 : decode c_L_law 494 = .ok (.ldc2_w 62, 3) := by decide +kernel
theorem d_L_law_497 : decode c_L_law 497 = .ok (.land, 1) := by decide +kernel
theorem d_L_law_498 : decode c_L_law 498 = .ok (.lor, 1) := by decide +kernel
theorem d_L_law_499 : decode c_L_law 499 = .ok (.aload_n 0, 1) := by decide +kernel
theorem d_L_law_500 : decode c_L_law 500 = .ok (.iload 4, 2) := by decide +kernel
theorem d_L_law_502 : decode c_L_law 502 = .ok (.iconst 5, 1) := by decide +kernel
theorem d_L_law_503 : decode c_L_law 503 = .ok (.iadd, 1) := by decide +kernel
theorem d_L_law_504 : decode c_L_law 504 = .ok (.iaload, 1) := by decide +kernel
theorem d_L_law_505 : decode c_L_law 505 = .ok (.aload_n 0, 1) := by decide +kernel
theorem d_L_law_506 : decode c_L_law 506 = .ok (.iload 4, 2) := by decide +kernel
theorem d_L_law_508 : decode c_L_law 508 = .ok (.bipush 6, 2) := by decide +kernel
theorem d_L_law_510 : decode c_L_law 510 = .ok (.iadd, 1) := by decide +kernel
theorem d_L_law_511 : decode c_L_law 511 = .ok (.iaload, 1) := by decide +kernel
theorem d_L_law_512 : decode c_L_law 512 = .ok (.i2l, 1) := by decide +kernel
theorem d_L_law_513 : decode c_L_law 513 = .ok (.bipush 32, 2) := by decide +kernel
theorem d_L_law_515 : decode c_L_law 515 = .ok (.lshl, 1) := by decide +kernel
theorem d_L_law_516 : decode c_L_law 516 = .ok (.aload_n 0, 1) := by decide +kernel
theorem d_L_law_517 : decode c_L_law 517 = .ok (.iload 4, 2) := by decide +kernel
theorem d_L_law_519 : decode c_L_law 519 = .ok (.bipush 7, 2) := by decide +kernel
theorem d_L_law_521 : decode c_L_law 521 = .ok (.iadd, 1) := by decide +kernel
theorem d_L_law_522 : decode c_L_law 522 = .ok (.iaload, 1) := by decide +kernel
theorem d_L_law_523 : decode c_L_law 523 = .ok (.i2l, 1) := by decide +kernel
theorem d_L_law_524 : decode c_L_law 524 = .ok (.ldc2_w 62, 3) := by decide +kernel
theorem d_L_law_527 : decode c_L_law 527 = .ok (.land, 1) := by decide +kernel
theorem d_L_law_528 : decode c_L_law 528 = .ok (.lor, 1) := by decide +kernel
theorem d_L_law_529 : decode c_L_law 529 = .ok (.aload_n 3, 1) := by decide +kernel
theorem d_L_law_530 : decode c_L_law 530 = .ok (.invokestatic 79, 3) := by decide +kernel
theorem d_L_law_533 : decode c_L_law 533 = .ok (.istore 5, 2) := by decide +kernel
theorem d_L_law_535 : decode c_L_law 535 = .ok (.aload_n 2, 1) := by decide +kernel
theorem d_L_law_536 : decode c_L_law 536 = .ok (.aload_n 0, 1) := by decide +kernel
theorem d_L_law_537 : decode c_L_law 537 = .ok (.iload 4, 2) := by decide +kernel
theorem d_L_law_539 : decode c_L_law 539 = .ok (.iconst 1, 1) := by decide +kernel
theorem d_L_law_540 : decode c_L_law 540 = .ok (.iadd, 1) := by decide +kernel
theorem d_L_law_541 : decode c_L_law 541 = .ok (.iaload, 1) := by decide +kernel
theorem d_L_law_542 : decode c_L_law 542 = .ok (.aload_n 0, 1) := by decide +kernel
theorem d_L_law_543 : decode c_L_law 543 = .ok (.iload 4, 2) := by decide +kernel
theorem d_L_law_545 : decode c_L_law 545 = .ok (.iconst 2, 1) := by decide +kernel
theorem d_L_law_546 : decode c_L_law 546 = .ok (.iadd, 1) := by decide +kernel
theorem d_L_law_547 : decode c_L_law 547 = .ok (.iaload, 1) := by decide +kernel
theorem d_L_law_548 : decode c_L_law 548 = .ok (.aload_n 0, 1) := by decide +kernel
theorem d_L_law_549 : decode c_L_law 549 = .ok (.iload 4, 2) := by decide +kernel
theorem d_L_law_551 : decode c_L_law 551 = .ok (.iconst 3, 1) := by decide +kernel
theorem d_L_law_552 : decode c_L_law 552 = .ok (.iadd, 1) := by decide +kernel
theorem d_L_law_553 : decode c_L_law 553 = .ok (.iaload, 1) := by decide +kernel
theorem d_L_law_554 : decode c_L_law 554 = .ok (.i2l, 1) := by decide +kernel
theorem d_L_law_555 : decode c_L_law 555 = .ok (.bipush 32, 2) := by decide +kernel
theorem d_L_law_557 : decode c_L_law 557 = .ok (.lshl, 1) := by decide +kernel
theorem d_L_law_558 : decode c_L_law 558 = .ok (.aload_n 0, 1) := by decide +kernel
theorem d_L_law_559 : decode c_L_law 559 = .ok (.iload 4, 2) := by decide +kernel
theorem d_L_law_561 : decode c_L_law 561 = .ok (.iconst 4, 1) := by decide +kernel
theorem d_L_law_562 : decode c_L_law 562 = .ok (.iadd, 1) := by decide +kernel
theorem d_L_law_563 : decode c_L_law 563 = .ok (.iaload, 1) := by decide +kernel
theorem d_L_law_564 : decode c_L_law 564 = .ok (.i2l, 1) := by decide +kernel
theorem d_L_law_565 : decode c_L_law 565 = .ok (.ldc2_w 62, 3) := by decide +kernel
theorem d_L_law_568 : decode c_L_law 568 = .ok (.land, 1) := by decide +kernel
theorem d_L_law_569 : decode c_L_law 569 = .ok (.lor, 1) := by decide +kernel
theorem d_L_law_570 : decode c_L_law 570 = .ok (.aload_n 0, 1) := by decide +kernel
theorem d_L_law_571 : decode c_L_law 571 = .ok (.iload 4, 2) := by decide +kernel
theorem d_L_law_573 : decode c_L_law 573 = .ok (.iconst 5, 1) := by decide +kernel
theorem d_L_law_574 : decode c_L_law 574 = .ok (.iadd, 1) := by decide +kernel
theorem d_L_law_575 : decode c_L_law 575 = .ok (.iaload, 1) := by decide +kernel
theorem d_L_law_576 : decode c_L_law 576 = .ok (.aload_n 0, 1) := by decide +kernel
theorem d_L_law_577 : decode c_L_law 577 = .ok (.iload 4, 2) := by decide +kernel
theorem d_L_law_579 : decode c_L_law 579 = .ok (.bipush 6, 2) := by decide +kernel
theorem d_L_law_581 : decode c_L_law 581 = .ok (.iadd, 1) := by decide +kernel
theorem d_L_law_582 : decode c_L_law 582 = .ok (.iaload, 1) := by decide +kernel
theorem d_L_law_583 : decode c_L_law 583 = .ok (.i2l, 1) := by decide +kernel
theorem d_L_law_584 : decode c_L_law 584 = .ok (.bipush 32, 2) := by decide +kernel
theorem d_L_law_586 : decode c_L_law 586 = .ok (.lshl, 1) := by decide +kernel
theorem d_L_law_587 : decode c_L_law 587 = .ok (.aload_n 0, 1) := by decide +kernel
theorem d_L_law_588 : decode c_L_law 588 = .ok (.iload 4, 2) := by decide +kernel
theorem d_L_law_590 : decode c_L_law 590 = .ok (.bipush 7, 2) := by decide +kernel
theorem d_L_law_592 : decode c_L_law 592 = .ok (.iadd, 1) := by decide +kernel
theorem d_L_law_593 : decode c_L_law 593 = .ok (.iaload, 1) := by decide +kernel
theorem d_L_law_594 : decode c_L_law 594 = .ok (.i2l, 1) := by decide +kernel
theorem d_L_law_595 : decode c_L_law 595 = .ok (.ldc2_w 62, 3) := by decide +kernel
theorem d_L_law_598 : decode c_L_law 598 = .ok (.land, 1) := by decide +kernel
theorem d_L_law_599 : decode c_L_law 599 = .ok (.lor, 1) := by decide +kernel
theorem d_L_law_600 : decode c_L_law 600 = .ok (.invokevirtual 82, 3) := by decide +kernel
theorem d_L_law_603 : decode c_L_law 603 = .ok (.lstore 6, 2) := by decide +kernel
theorem d_L_law_605 : decode c_L_law 605 = .ok (.aload_n 2, 1) := by decide +kernel
theorem d_L_law_606 : decode c_L_law 606 = .ok (.invokevirtual 68, 3) := by decide +kernel
theorem d_L_law_609 : decode c_L_law 609 = .ok (.iload 5, 2) := by decide +kernel
theorem d_L_law_611 : decode c_L_law 611 = .ok (.if_icmp .eq 5, 3) := by decide +kernel
theorem d_L_law_614 : decode c_L_law 614 = .ok (.iconst 0, 1) := by decide +kernel
theorem d_L_law_615 : decode c_L_law 615 = .ok (.ireturn, 1) := by decide +kernel
theorem d_L_law_616 : decode c_L_law 616 = .ok (.iload 5, 2) := by decide +kernel
theorem d_L_law_618 : decode c_L_law 618 = .ok (.ifCond .ne 14, 3) := by decide +kernel
theorem d_L_law_621 : decode c_L_law 621 = .ok (.aload_n 3, 1) := by decide +kernel
theorem d_L_law_622 : decode c_L_law 622 = .ok (.iconst 0, 1) := by decide +kernel
theorem d_L_law_623 : decode c_L_law 623 = .ok (.laload, 1) := by decide +kernel
theorem d_L_law_624 : decode c_L_law 624 = .ok (.lload 6, 2) := by decide +kernel
theorem d_L_law_626 : decode c_L_law 626 = .ok (.lcmp, 1) := by decide +kernel
theorem d_L_law_627 : decode c_L_law 627 = .ok (.ifCond .eq 5, 3) := by decide +kernel
theorem d_L_law_630 : decode c_L_law 630 = .ok (.iconst 0, 1) := by decide +kernel
theorem d_L_law_631 : decode c_L_law 631 = .ok (.ireturn, 1) := by decide +kernel
theorem d_L_law_632 : decode c_L_law 632 = .ok (.goto 244, 3) := by decide +kernel
theorem d_L_law_635 : decode c_L_law 635 = .ok (.aload_n 1, 1) := by decide +kernel
theorem d_L_law_636 : decode c_L_law 636 = .ok (.aload_n 0, 1) := by decide +kernel
theorem d_L_law_637 : decode c_L_law 637 = .ok (.iload 4, 2) := by decide +kernel
theorem d_L_law_639 : decode c_L_law 639 = .ok (.iconst 1, 1) := by decide +kernel
theorem d_L_law_640 : decode c_L_law 640 = .ok (.iadd, 1) := by decide +kernel
theorem d_L_law_641 : decode c_L_law 641 = .ok (.iaload, 1) := by decide +kernel
theorem d_L_law_642 : decode c_L_law 642 = .ok (.aload_n 3, 1) := by decide +kernel
theorem d_L_law_643 : decode c_L_law 643 = .ok (.invokestatic 83, 3) := by decide +kernel
theorem d_L_law_646 : decode c_L_law 646 = .ok (.istore 5, 2) := by decide +kernel
theorem d_L_law_648 : decode c_L_law 648 = .ok (.aload_n 2, 1) := by decide +kernel
theorem d_L_law_649 : decode c_L_law 649 = .ok (.aload_n 0, 1) := by decide +kernel
theorem d_L_law_650 : decode c_L_law 650 = .ok (.iload 4, 2) := by decide +kernel
theorem d_L_law_652 : decode c_L_law 652 = .ok (.iconst 1, 1) := by decide +kernel
theorem d_L_law_653 : decode c_L_law 653 = .ok (.iadd, 1) := by decide +kernel
theorem d_L_law_654 : decode c_L_law 654 = .ok (.iaload, 1) := by decide +kernel
theorem d_L_law_655 : decode c_L_law 655 = .ok (.invokevirtual 86, 3) := by decide +kernel
theorem d_L_law_658 : decode c_L_law 658 = .ok (.istore 6, 2) := by decide +kernel
theorem d_L_law_660 : decode c_L_law 660 = .ok (.aload_n 2, 1) := by decide +kernel
theorem d_L_law_661 : decode c_L_law 661 = .ok (.invokevirtual 68, 3) := by decide +kernel
theorem d_L_law_664 : decode c_L_law 664 = .ok (.iload 5, 2) := by decide +kernel
theorem d_L_law_666 : decode c_L_law 666 = .ok (.if_icmp .eq 5, 3) := by decide +kernel
theorem d_L_law_669 : decode c_L_law 669 = .ok (.iconst 0, 1) := by decide +kernel
theorem d_L_law_670 : decode c_L_law 670 = .ok (.ireturn, 1) := by decide +kernel
theorem d_L_law_671 : decode c_L_law 671 = .ok (.iload 5, 2) := by decide +kernel
theorem d_L_law_673 : decode c_L_law 673 = .ok (.ifCond .ne 22, 3) := by decide +kernel
theorem d_L_law_676 : decode c_L_law 676 = .ok (.aload_n 3, 1) := by decide +kernel
theorem d_L_law_677 : decode c_L_law 677 = .ok (.iconst 0, 1) := by decide +kernel
theorem d_L_law_678 : decode c_L_law 678 = .ok (.laload, 1) := by decide +kernel
theorem d_L_law_679 : decode c_L_law 679 = .ok (.iload 6, 2) := by decide +kernel
theorem d_L_law_681 : decode c_L_law 681 = .ok (.ifCond .eq 7, 3) := by decide +kernel
theorem d_L_law_684 : decode c_L_law 684 = .ok (.lconst 1, 1) := by decide +kernel
theorem d_L_law_685 : decode c_L_law 685 = .ok (.goto 4, 3) := by decide +kernel
theorem d_L_law_688 : decode c_L_law 688 = .ok (.lconst 0, 1) := by decide +kernel
theorem d_L_law_689 : decode c_L_law 689 = .ok (.lcmp, 1) := by decide +kernel
theorem d_L_law_690 : decode c_L_law 690 = .ok (.ifCond .eq 5, 3) := by decide +kernel
theorem d_L_law_693 : decode c_L_law 693 = .ok (.iconst 0, 1) := by decide +kernel
theorem d_L_law_694 : decode c_L_law 694 = .ok (.ireturn, 1) := by decide +kernel
theorem d_L_law_695 : decode c_L_law 695 = .ok (.goto 181, 3) := by decide +kernel
theorem d_L_law_698 : decode c_L_law 698 = .ok (.aload_n 1, 1) := by decide +kernel
theorem d_L_law_699 : decode c_L_law 699 = .ok (.aload_n 0, 1) := by decide +kernel
theorem d_L_law_700 : decode c_L_law 700 = .ok (.iload 4, 2) := by decide +kernel
theorem d_L_law_702 : decode c_L_law 702 = .ok (.iconst 1, 1) := by decide +kernel
theorem d_L_law_703 : decode c_L_law 703 = .ok (.iadd, 1) := by decide +kernel
theorem d_L_law_704 : decode c_L_law 704 = .ok (.iaload, 1) := by decide +kernel
theorem d_L_law_705 : decode c_L_law 705 = .ok (.aload_n 3, 1) := by decide +kernel
theorem d_L_law_706 : decode c_L_law 706 = .ok (.invokestatic 87, 3) := by decide +kernel
theorem d_L_law_709 : decode c_L_law 709 = .ok (.istore 5, 2) := by decide +kernel
theorem d_L_law_711 : decode c_L_law 711 = .ok (.aload_n 2, 1) := by decide +kernel
theorem d_L_law_712 : decode c_L_law 712 = .ok (.aload_n 0, 1) := by decide +kernel
theorem d_L_law_713 : decode c_L_law 713 = .ok (.iload 4, 2) := by decide +kernel
theorem d_L_law_715 : decode c_L_law 715 = .ok (.iconst 1, 1) := by decide +kernel
theorem d_L_law_716 : decode c_L_law 716 = .ok (.iadd, 1) := by decide +kernel
theorem d_L_law_717 : decode c_L_law 717 = .ok (.iaload, 1) := by decide +kernel
theorem d_L_law_718 : decode c_L_law 718 = .ok (.invokevirtual 89, 3) := by decide +kernel
theorem d_L_law_721 : decode c_L_law 721 = .ok (.lstore 6, 2) := by decide +kernel
theorem d_L_law_723 : decode c_L_law 723 = .ok (.aload_n 2, 1) := by decide +kernel
theorem d_L_law_724 : decode c_L_law 724 = .ok (.invokevirtual 68, 3) := by decide +kernel
theorem d_L_law_727 : decode c_L_law 727 = .ok (.iload 5, 2) := by decide +kernel
theorem d_L_law_729 : decode c_L_law 729 = .ok (.if_icmp .eq 5, 3) := by decide +kernel
theorem d_L_law_732 : decode c_L_law 732 = .ok (.iconst 0, 1) := by decide +kernel
theorem d_L_law_733 : decode c_L_law 733 = .ok (.ireturn, 1) := by decide +kernel
theorem d_L_law_734 : decode c_L_law 734 = .ok (.iload 5, 2) := by decide +kernel
theorem d_L_law_736 : decode c_L_law 736 = .ok (.ifCond .ne 14, 3) := by decide +kernel
theorem d_L_law_739 : decode c_L_law 739 = .ok (.aload_n 3, 1) := by decide +kernel
theorem d_L_law_740 : decode c_L_law 740 = .ok (.iconst 0, 1) := by decide +kernel
theorem d_L_law_741 : decode c_L_law 741 = .ok (.laload, 1) := by decide +kernel
theorem d_L_law_742 : decode c_L_law 742 = .ok (.lload 6, 2) := by decide +kernel
theorem d_L_law_744 : decode c_L_law 744 = .ok (.lcmp, 1) := by decide +kernel
theorem d_L_law_745 : decode c_L_law 745 = .ok (.ifCond .eq 5, 3) := by decide +kernel
theorem d_L_law_748 : decode c_L_law 748 = .ok (.iconst 0, 1) := by decide +kernel
theorem d_L_law_749 : decode c_L_law 749 = .ok (.ireturn, 1) := by decide +kernel
theorem d_L_law_750 : decode c_L_law 750 = .ok (.goto 126, 3) := by decide +kernel
theorem d_L_law_753 : decode c_L_law 753 = .ok (.aload_n 1, 1) := by decide +kernel
theorem d_L_law_754 : decode c_L_law 754 = .ok (.aload_n 0, 1) := by decide +kernel
theorem d_L_law_755 : decode c_L_law 755 = .ok (.iload 4, 2) := by decide +kernel
theorem d_L_law_757 : decode c_L_law 757 = .ok (.iconst 1, 1) := by decide +kernel
theorem d_L_law_758 : decode c_L_law 758 = .ok (.iadd, 1) := by decide +kernel
theorem d_L_law_759 : decode c_L_law 759 = .ok (.iaload, 1) := by decide +kernel
theorem d_L_law_760 : decode c_L_law 760 = .ok (.aload_n 3, 1) := by decide +kernel
theorem d_L_law_761 : decode c_L_law 761 = .ok (.invokestatic 90, 3) := by decide +kernel
theorem d_L_law_764 : decode c_L_law 764 = .ok (.istore 5, 2) := by decide +kernel
theorem d_L_law_766 : decode c_L_law 766 = .ok (.aload_n 2, 1) := by decide +kernel
theorem d_L_law_767 : decode c_L_law 767 = .ok (.aload_n 0, 1) := by decide +kernel
theorem d_L_law_768 : decode c_L_law 768 = .ok (.iload 4, 2) := by decide +kernel
theorem d_L_law_770 : decode c_L_law 770 = .ok (.iconst 1, 1) := by decide +kernel
theorem d_L_law_771 : decode c_L_law 771 = .ok (.iadd, 1) := by decide +kernel
theorem d_L_law_772 : decode c_L_law 772 = .ok (.iaload, 1) := by decide +kernel
theorem d_L_law_773 : decode c_L_law 773 = .ok (.invokevirtual 92, 3) := by decide +kernel
theorem d_L_law_776 : decode c_L_law 776 = .ok (.lstore 6, 2) := by decide +kernel
theorem d_L_law_778 : decode c_L_law 778 = .ok (.aload_n 2, 1) := by decide +kernel
theorem d_L_law_779 : decode c_L_law 779 = .ok (.invokevirtual 68, 3) := by decide +kernel
theorem d_L_law_782 : decode c_L_law 782 = .ok (.iload 5, 2) := by decide +kernel
theorem d_L_law_784 : decode c_L_law 784 = .ok (.if_icmp .eq 5, 3) := by decide +kernel
theorem d_L_law_787 : decode c_L_law 787 = .ok (.iconst 0, 1) := by decide +kernel
theorem d_L_law_788 : decode c_L_law 788 = .ok (.ireturn, 1) := by decide +kernel
theorem d_L_law_789 : decode c_L_law 789 = .ok (.iload 5, 2) := by decide +kernel
theorem d_L_law_791 : decode c_L_law 791 = .ok (.ifCond .ne 14, 3) := by decide +kernel
theorem d_L_law_794 : decode c_L_law 794 = .ok (.aload_n 3, 1) := by decide +kernel
theorem d_L_law_795 : decode c_L_law 795 = .ok (.iconst 0, 1) := by decide +kernel
theorem d_L_law_796 : decode c_L_law 796 = .ok (.laload, 1) := by decide +kernel
theorem d_L_law_797 : decode c_L_law 797 = .ok (.lload 6, 2) := by decide +kernel
theorem d_L_law_799 : decode c_L_law 799 = .ok (.lcmp, 1) := by decide +kernel
theorem d_L_law_800 : decode c_L_law 800 = .ok (.ifCond .eq 5, 3) := by decide +kernel
theorem d_L_law_803 : decode c_L_law 803 = .ok (.iconst 0, 1) := by decide +kernel
theorem d_L_law_804 : decode c_L_law 804 = .ok (.ireturn, 1) := by decide +kernel
theorem d_L_law_805 : decode c_L_law 805 = .ok (.goto 71, 3) := by decide +kernel
theorem d_L_law_808 : decode c_L_law 808 = .ok (.aload_n 1, 1) := by decide +kernel
theorem d_L_law_809 : decode c_L_law 809 = .ok (.aload_n 0, 1) := by decide +kernel
theorem d_L_law_810 : decode c_L_law 810 = .ok (.iload 4, 2) := by decide +kernel
theorem d_L_law_812 : decode c_L_law 812 = .ok (.iconst 1, 1) := by decide +kernel
theorem d_L_law_813 : decode c_L_law 813 = .ok (.iadd, 1) := by decide +kernel
theorem d_L_law_814 : decode c_L_law 814 = .ok (.iaload, 1) := by decide +kernel
theorem d_L_law_815 : decode c_L_law 815 = .ok (.aload_n 3, 1) := by decide +kernel
theorem d_L_law_816 : decode c_L_law 816 = .ok (.invokestatic 93, 3) := by decide +kernel
theorem d_L_law_819 : decode c_L_law 819 = .ok (.istore 5, 2) := by decide +kernel
theorem d_L_law_821 : decode c_L_law 821 = .ok (.aload_n 2, 1) := by decide +kernel
theorem d_L_law_822 : decode c_L_law 822 = .ok (.aload_n 0, 1) := by decide +kernel
theorem d_L_law_823 : decode c_L_law 823 = .ok (.iload 4, 2) := by decide +kernel
theorem d_L_law_825 : decode c_L_law 825 = .ok (.iconst 1, 1) := by decide +kernel
theorem d_L_law_826 : decode c_L_law 826 = .ok (.iadd, 1) := by decide +kernel
theorem d_L_law_827 : decode c_L_law 827 = .ok (.iaload, 1) := by decide +kernel
theorem d_L_law_828 : decode c_L_law 828 = .ok (.invokevirtual 95, 3) := by decide +kernel
theorem d_L_law_831 : decode c_L_law 831 = .ok (.lstore 6, 2) := by decide +kernel
theorem d_L_law_833 : decode c_L_law 833 = .ok (.aload_n 2, 1) := by decide +kernel
theorem d_L_law_834 : decode c_L_law 834 = .ok (.invokevirtual 68, 3) := by decide +kernel
theorem d_L_law_837 : decode c_L_law 837 = .ok (.iload 5, 2) := by decide +kernel
theorem d_L_law_839 : decode c_L_law 839 = .ok (.if_icmp .eq 5, 3) := by decide +kernel
theorem d_L_law_842 : decode c_L_law 842 = .ok (.iconst 0, 1) := by decide +kernel
theorem d_L_law_843 : decode c_L_law 843 = .ok (.ireturn, 1) := by decide +kernel
theorem d_L_law_844 : decode c_L_law 844 = .ok (.iload 5, 2) := by decide +kernel
theorem d_L_law_846 : decode c_L_law 846 = .ok (.ifCond .ne 14, 3) := by decide +kernel
theorem d_L_law_849 : decode c_L_law 849 = .ok (.aload_n 3, 1) := by decide +kernel
theorem d_L_law_850 : decode c_L_law 850 = .ok (.iconst 0, 1) := by decide +kernel
theorem d_L_law_851 : decode c_L_law 851 = .ok (.laload, 1) := by decide +kernel
theorem d_L_law_852 : decode c_L_law 852 = .ok (.lload 6, 2) := by decide +kernel
theorem d_L_law_854 : decode c_L_law 854 = .ok (.lcmp, 1) := by decide +kernel
theorem d_L_law_855 : decode c_L_law 855 = .ok (.ifCond .eq 5, 3) := by decide +kernel
theorem d_L_law_858 : decode c_L_law 858 = .ok (.iconst 0, 1) := by decide +kernel
theorem d_L_law_859 : decode c_L_law 859 = .ok (.ireturn, 1) := by decide +kernel
theorem d_L_law_860 : decode c_L_law 860 = .ok (.goto 16, 3) := by decide +kernel
theorem d_L_law_863 : decode c_L_law 863 = .ok (.aload_n 1, 1) := by decide +kernel
theorem d_L_law_864 : decode c_L_law 864 = .ok (.invokevirtual 96, 3) := by decide +kernel
theorem d_L_law_867 : decode c_L_law 867 = .ok (.aload_n 2, 1) := by decide +kernel
theorem d_L_law_868 : decode c_L_law 868 = .ok (.invokevirtual 99, 3) := by decide +kernel
theorem d_L_law_871 : decode c_L_law 871 = .ok (.if_icmp .eq 5, 3) := by decide +kernel
theorem d_L_law_874 : decode c_L_law 874 = .ok (.iconst 0, 1) := by decide +kernel
theorem d_L_law_875 : decode c_L_law 875 = .ok (.ireturn, 1) := by decide +kernel
theorem d_L_law_876 : decode c_L_law 876 = .ok (.iinc 4 8, 3) := by decide +kernel
theorem d_L_law_879 : decode c_L_law 879 = .ok (.goto (-846), 3) := by decide +kernel
theorem d_L_law_882 : decode c_L_law 882 = .ok (.iconst 1, 1) := by decide +kernel
theorem d_L_law_883 : decode c_L_law 883 = .ok (.ireturn, 1) := by decide +kernel
