theorem kd_L_law_0 : decode code 0 = .ok (.new 7, 3) := by decide +kernel
theorem kd_L_law_3 : decode code 3 = .ok (.dup, 1) := by decide +kernel
theorem kd_L_law_4 : decode code 4 = .ok (.aload_n 0, 1) := by decide +kernel
theorem kd_L_law_5 : decode code 5 = .ok (.iconst 0, 1) := by decide +kernel
theorem kd_L_law_6 : decode code 6 = .ok (.invokestatic 9, 3) := by decide +kernel
theorem kd_L_law_9 : decode code 9 = .ok (.invokespecial 15, 3) := by decide +kernel
theorem kd_L_law_12 : decode code 12 = .ok (.astore_n 1, 1) := by decide +kernel
theorem kd_L_law_13 : decode code 13 = .ok (.new 18, 3) := by decide +kernel
theorem kd_L_law_16 : decode code 16 = .ok (.dup, 1) := by decide +kernel
theorem kd_L_law_17 : decode code 17 = .ok (.aload_n 0, 1) := by decide +kernel
theorem kd_L_law_18 : decode code 18 = .ok (.iconst 0, 1) := by decide +kernel
theorem kd_L_law_19 : decode code 19 = .ok (.invokestatic 9, 3) := by decide +kernel
theorem kd_L_law_22 : decode code 22 = .ok (.invokespecial 20, 3) := by decide +kernel
theorem kd_L_law_25 : decode code 25 = .ok (.astore_n 2, 1) := by decide +kernel
theorem kd_L_law_26 : decode code 26 = .ok (.iconst 1, 1) := by decide +kernel
theorem kd_L_law_27 : decode code 27 = .ok (.istore_n 3, 1) := by decide +kernel
theorem kd_L_law_28 : decode code 28 = .ok (.iload_n 3, 1) := by decide +kernel
theorem kd_L_law_29 : decode code 29 = .ok (.aload_n 0, 1) := by decide +kernel
theorem kd_L_law_30 : decode code 30 = .ok (.arraylength, 1) := by decide +kernel
theorem kd_L_law_31 : decode code 31 = .ok (.iconst 4, 1) := by decide +kernel
theorem kd_L_law_32 : decode code 32 = .ok (.isub, 1) := by decide +kernel
theorem kd_L_law_33 : decode code 33 = .ok (.if_icmp .gt 631, 3) := by decide +kernel
theorem kd_L_law_36 : decode code 36 = .ok (.aload_n 0, 1) := by decide +kernel
theorem kd_L_law_37 : decode code 37 = .ok (.iload_n 3, 1) := by decide +kernel
theorem kd_L_law_38 : decode code 38 = .ok (.iaload, 1) := by decide +kernel
theorem kd_L_law_39 : decode code 39 = .ok (.bipush 15, 2) := by decide +kernel
theorem kd_L_law_41 : decode code 41 = .ok (.iand, 1) := by decide +kernel
theorem kd_L_law_42 : decode code 42 = .ok (.tableswitch 616 0 11 #[62, 111, 174, 227, 250, 313, 372, 435, 468, 517, 540, 603], 62) := by decide +kernel
theorem kd_L_law_104 : decode code 104 = .ok (.aload_n 1, 1) := by decide +kernel
theorem kd_L_law_105 : decode code 105 = .ok (.aload_n 0, 1) := by decide +kernel
theorem kd_L_law_106 : decode code 106 = .ok (.iload_n 3, 1) := by decide +kernel
theorem kd_L_law_107 : decode code 107 = .ok (.iconst 1, 1) := by decide +kernel
theorem kd_L_law_108 : decode code 108 = .ok (.iadd, 1) := by decide +kernel
theorem kd_L_law_109 : decode code 109 = .ok (.iaload, 1) := by decide +kernel
theorem kd_L_law_110 : decode code 110 = .ok (.aload_n 0, 1) := by decide +kernel
theorem kd_L_law_111 : decode code 111 = .ok (.iload_n 3, 1) := by decide +kernel
theorem kd_L_law_112 : decode code 112 = .ok (.iconst 2, 1) := by decide +kernel
theorem kd_L_law_113 : decode code 113 = .ok (.iadd, 1) := by decide +kernel
theorem kd_L_law_114 : decode code 114 = .ok (.iaload, 1) := by decide +kernel
theorem kd_L_law_115 : decode code 115 = .ok (.ifCond .eq 7, 3) := by decide +kernel
theorem kd_L_law_118 : decode code 118 = .ok (.iconst 1, 1) := by decide +kernel
theorem kd_L_law_119 : decode code 119 = .ok (.goto 4, 3) := by decide +kernel
theorem kd_L_law_122 : decode code 122 = .ok (.iconst 0, 1) := by decide +kernel
theorem kd_L_law_123 : decode code 123 = .ok (.invokevirtual 21, 3) := by decide +kernel
theorem kd_L_law_126 : decode code 126 = .ok (.aload_n 2, 1) := by decide +kernel
theorem kd_L_law_127 : decode code 127 = .ok (.aload_n 0, 1) := by decide +kernel
theorem kd_L_law_128 : decode code 128 = .ok (.iload_n 3, 1) := by decide +kernel
theorem kd_L_law_129 : decode code 129 = .ok (.iconst 1, 1) := by decide +kernel
theorem kd_L_law_130 : decode code 130 = .ok (.iadd, 1) := by decide +kernel
theorem kd_L_law_131 : decode code 131 = .ok (.iaload, 1) := by decide +kernel
theorem kd_L_law_132 : decode code 132 = .ok (.aload_n 0, 1) := by decide +kernel
theorem kd_L_law_133 : decode code 133 = .ok (.iload_n 3, 1) := by decide +kernel
theorem kd_L_law_134 : decode code 134 = .ok (.iconst 2, 1) := by decide +kernel
theorem kd_L_law_135 : decode code 135 = .ok (.iadd, 1) := by decide +kernel
theorem kd_L_law_136 : decode code 136 = .ok (.iaload, 1) := by decide +kernel
theorem kd_L_law_137 : decode code 137 = .ok (.ifCond .eq 7, 3) := by decide +kernel
theorem kd_L_law_140 : decode code 140 = .ok (.iconst 1, 1) := by decide +kernel
theorem kd_L_law_141 : decode code 141 = .ok (.goto 4, 3) := by decide +kernel
theorem kd_L_law_144 : decode code 144 = .ok (.iconst 0, 1) := by decide +kernel
theorem kd_L_law_145 : decode code 145 = .ok (.invokevirtual 25, 3) := by decide +kernel
theorem kd_L_law_148 : decode code 148 = .ok (.if_icmp .eq 510, 3) := by decide +kernel
theorem kd_L_law_151 : decode code 151 = .ok (.iconst 0, 1) := by decide +kernel
theorem kd_L_law_152 : decode code 152 = .ok (.ireturn, 1) := by decide +kernel
theorem kd_L_law_153 : decode code 153 = .ok (.aload_n 1, 1) := by decide +kernel
theorem kd_L_law_154 : decode code 154 = .ok (.aload_n 0, 1) := by decide +kernel
theorem kd_L_law_155 : decode code 155 = .ok (.iload_n 3, 1) := by decide +kernel
theorem kd_L_law_156 : decode code 156 = .ok (.iconst 1, 1) := by decide +kernel
theorem kd_L_law_157 : decode code 157 = .ok (.iadd, 1) := by decide +kernel
theorem kd_L_law_158 : decode code 158 = .ok (.iaload, 1) := by decide +kernel
theorem kd_L_law_159 : decode code 159 = .ok (.aload_n 0, 1) := by decide +kernel
theorem kd_L_law_160 : decode code 160 = .ok (.iload_n 3, 1) := by decide +kernel
theorem kd_L_law_161 : decode code 161 = .ok (.iconst 2, 1) := by decide +kernel
theorem kd_L_law_162 : decode code 162 = .ok (.iadd, 1) := by decide +kernel
theorem kd_L_law_163 : decode code 163 = .ok (.iaload, 1) := by decide +kernel
theorem kd_L_law_164 : decode code 164 = .ok (.i2l, 1) := by decide +kernel
theorem kd_L_law_165 : decode code 165 = .ok (.bipush 32, 2) := by decide +kernel
theorem kd_L_law_167 : decode code 167 = .ok (.lshl, 1) := by decide +kernel
theorem kd_L_law_168 : decode code 168 = .ok (.aload_n 0, 1) := by decide +kernel
theorem kd_L_law_169 : decode code 169 = .ok (.iload_n 3, 1) := by decide +kernel
theorem kd_L_law_170 : decode code 170 = .ok (.iconst 3, 1) := by decide +kernel
theorem kd_L_law_171 : decode code 171 = .ok (.iadd, 1) := by decide +kernel
theorem kd_L_law_172 : decode code 172 = .ok (.iaload, 1) := by decide +kernel
theorem kd_L_law_173 : decode code 173 = .ok (.i2l, 1) := by decide +kernel
theorem kd_L_law_174 : decode code 174 = .ok (.ldc2_w 26, 3) := by decide +kernel
theorem kd_L_law_177 : decode code 177 = .ok (.land, 1) := by decide +kernel
theorem kd_L_law_178 : decode code 178 = .ok (.lor, 1) := by decide +kernel
theorem kd_L_law_179 : decode code 179 = .ok (.invokevirtual 28, 3) := by decide +kernel
theorem kd_L_law_182 : decode code 182 = .ok (.aload_n 2, 1) := by decide +kernel
theorem kd_L_law_183 : decode code 183 = .ok (.aload_n 0, 1) := by decide +kernel
theorem kd_L_law_184 : decode code 184 = .ok (.iload_n 3, 1) := by decide +kernel
theorem kd_L_law_185 : decode code 185 = .ok (.iconst 1, 1) := by decide +kernel
theorem kd_L_law_186 : decode code 186 = .ok (.iadd, 1) := by decide +kernel
theorem kd_L_law_187 : decode code 187 = .ok (.iaload, 1) := by decide +kernel
theorem kd_L_law_188 : decode code 188 = .ok (.aload_n 0, 1) := by decide +kernel
theorem kd_L_law_189 : decode code 189 = .ok (.iload_n 3, 1) := by decide +kernel
theorem kd_L_law_190 : decode code 190 = .ok (.iconst 2, 1) := by decide +kernel
theorem kd_L_law_191 : decode code 191 = .ok (.iadd, 1) := by decide +kernel
theorem kd_L_law_192 : decode code 192 = .ok (.iaload, 1) := by decide +kernel
theorem kd_L_law_193 : decode code 193 = .ok (.i2l, 1) := by decide +kernel
theorem kd_L_law_194 : decode code 194 = .ok (.bipush 32, 2) := by decide +kernel
theorem kd_L_law_196 : decode code 196 = .ok (.lshl, 1) := by decide +kernel
theorem kd_L_law_197 : decode code 197 = .ok (.aload_n 0, 1) := by decide +kernel
theorem kd_L_law_198 : decode code 198 = .ok (.iload_n 3, 1) := by decide +kernel
theorem kd_L_law_199 : decode code 199 = .ok (.iconst 3, 1) := by decide +kernel
theorem kd_L_law_200 : decode code 200 = .ok (.iadd, 1) := by decide +kernel
theorem kd_L_law_201 : decode code 201 = .ok (.iaload, 1) := by decide +kernel
theorem kd_L_law_202 : decode code 202 = .ok (.i2l, 1) := by decide +kernel
theorem kd_L_law_203 : decode code 203 = .ok (.ldc2_w 26, 3) := by decide +kernel
theorem kd_L_law_206 : decode code 206 = .ok (.land, 1) := by decide +kernel
theorem kd_L_law_207 : decode code 207 = .ok (.lor, 1) := by decide +kernel
theorem kd_L_law_208 : decode code 208 = .ok (.invokevirtual 32, 3) := by decide +kernel
theorem kd_L_law_211 : decode code 211 = .ok (.if_icmp .eq 447, 3) := by decide +kernel
theorem kd_L_law_214 : decode code 214 = .ok (.iconst 0, 1) := by decide +kernel
theorem kd_L_law_215 : decode code 215 = .ok (.ireturn, 1) := by decide +kernel
theorem kd_L_law_216 : decode code 216 = .ok (.aload_n 1, 1) := by decide +kernel
theorem kd_L_law_217 : decode code 217 = .ok (.aload_n 0, 1) := by decide +kernel
theorem kd_L_law_218 : decode code 218 = .ok (.iload_n 3, 1) := by decide +kernel
theorem kd_L_law_219 : decode code 219 = .ok (.iconst 1, 1) := by decide +kernel
theorem kd_L_law_220 : decode code 220 = .ok (.iadd, 1) := by decide +kernel
theorem kd_L_law_221 : decode code 221 = .ok (.iaload, 1) := by decide +kernel
theorem kd_L_law_222 : decode code 222 = .ok (.i2l, 1) := by decide +kernel
theorem kd_L_law_223 : decode code 223 = .ok (.bipush 32, 2) := by decide +kernel
theorem kd_L_law_225 : decode code 225 = .ok (.lshl, 1) := by decide +kernel
theorem kd_L_law_226 : decode code 226 = .ok (.aload_n 0, 1) := by decide +kernel
theorem kd_L_law_227 : decode code 227 = .ok (.iload_n 3, 1) := by decide +kernel
theorem kd_L_law_228 : decode code 228 = .ok (.iconst 2, 1) := by decide +kernel
theorem kd_L_law_229 : decode code 229 = .ok (.iadd, 1) := by decide +kernel
theorem kd_L_law_230 : decode code 230 = .ok (.iaload, 1) := by decide +kernel
theorem kd_L_law_231 : decode code 231 = .ok (.i2l, 1) := by decide +kernel
theorem kd_L_law_232 : decode code 232 = .ok (.ldc2_w 26, 3) := by decide +kernel
theorem kd_L_law_235 : decode code 235 = .ok (.land, 1) := by decide +kernel
theorem kd_L_law_236 : decode code 236 = .ok (.lor, 1) := by decide +kernel
theorem kd_L_law_237 : decode code 237 = .ok (.invokevirtual 33, 3) := by decide +kernel
theorem kd_L_law_240 : decode code 240 = .ok (.aload_n 2, 1) := by decide +kernel
theorem kd_L_law_241 : decode code 241 = .ok (.aload_n 0, 1) := by decide +kernel
theorem kd_L_law_242 : decode code 242 = .ok (.iload_n 3, 1) := by decide +kernel
theorem kd_L_law_243 : decode code 243 = .ok (.iconst 1, 1) := by decide +kernel
theorem kd_L_law_244 : decode code 244 = .ok (.iadd, 1) := by decide +kernel
theorem kd_L_law_245 : decode code 245 = .ok (.iaload, 1) := by decide +kernel
theorem kd_L_law_246 : decode code 246 = .ok (.i2l, 1) := by decide +kernel
theorem kd_L_law_247 : decode code 247 = .ok (.bipush 32, 2) := by decide +kernel
theorem kd_L_law_249 : decode code 249 = .ok (.lshl, 1) := by decide +kernel
theorem kd_L_law_250 : decode code 250 = .ok (.aload_n 0, 1) := by decide +kernel
theorem kd_L_law_251 : decode code 251 = .ok (.iload_n 3, 1) := by decide +kernel
theorem kd_L_law_252 : decode code 252 = .ok (.iconst 2, 1) := by decide +kernel
theorem kd_L_law_253 : decode code 253 = .ok (.iadd, 1) := by decide +kernel
theorem kd_L_law_254 : decode code 254 = .ok (.iaload, 1) := by decide +kernel
theorem kd_L_law_255 : decode code 255 = .ok (.i2l, 1) := by decide +kernel
theorem kd_L_law_256 : decode code 256 = .ok (.ldc2_w 26, 3) := by decide +kernel
theorem kd_L_law_259 : decode code 259 = .ok (.land, 1) := by decide +kernel
theorem kd_L_law_260 : decode code 260 = .ok (.lor, 1) := by decide +kernel
theorem kd_L_law_261 : decode code 261 = .ok (.invokevirtual 37, 3) := by decide +kernel
theorem kd_L_law_264 : decode code 264 = .ok (.if_icmp .eq 394, 3) := by decide +kernel
theorem kd_L_law_267 : decode code 267 = .ok (.iconst 0, 1) := by decide +kernel
theorem kd_L_law_268 : decode code 268 = .ok (.ireturn, 1) := by decide +kernel
theorem kd_L_law_269 : decode code 269 = .ok (.aload_n 1, 1) := by decide +kernel
theorem kd_L_law_270 : decode code 270 = .ok (.aload_n 0, 1) := by decide +kernel
theorem kd_L_law_271 : decode code 271 = .ok (.iload_n 3, 1) := by decide +kernel
theorem kd_L_law_272 : decode code 272 = .ok (.iconst 1, 1) := by decide +kernel
theorem kd_L_law_273 : decode code 273 = .ok (.iadd, 1) := by decide +kernel
theorem kd_L_law_274 : decode code 274 = .ok (.iaload, 1) := by decide +kernel
theorem kd_L_law_275 : decode code 275 = .ok (.invokevirtual 38, 3) := by decide +kernel
theorem kd_L_law_278 : decode code 278 = .ok (.aload_n 2, 1) := by decide +kernel
theorem kd_L_law_279 : decode code 279 = .ok (.aload_n 0, 1) := by decide +kernel
theorem kd_L_law_280 : decode code 280 = .ok (.iload_n 3, 1) := by decide +kernel
theorem kd_L_law_281 : decode code 281 = .ok (.iconst 1, 1) := by decide +kernel
theorem kd_L_law_282 : decode code 282 = .ok (.iadd, 1) := by decide +kernel
theorem kd_L_law_283 : decode code 283 = .ok (.iaload, 1) := by decide +kernel
theorem kd_L_law_284 : decode code 284 = .ok (.invokevirtual 42, 3) := by decide +kernel
theorem kd_L_law_287 : decode code 287 = .ok (.if_icmp .eq 371, 3) := by decide +kernel
theorem kd_L_law_290 : decode code 290 = .ok (.iconst 0, 1) := by decide +kernel
theorem kd_L_law_291 : decode code 291 = .ok (.ireturn, 1) := by decide +kernel
theorem kd_L_law_292 : decode code 292 = .ok (.aload_n 1, 1) := by decide +kernel
theorem kd_L_law_293 : decode code 293 = .ok (.aload_n 0, 1) := by decide +kernel
theorem kd_L_law_294 : decode code 294 = .ok (.iload_n 3, 1) := by decide +kernel
theorem kd_L_law_295 : decode code 295 = .ok (.iconst 1, 1) := by decide +kernel
theorem kd_L_law_296 : decode code 296 = .ok (.iadd, 1) := by decide +kernel
theorem kd_L_law_297 : decode code 297 = .ok (.iaload, 1) := by decide +kernel
theorem kd_L_law_298 : decode code 298 = .ok (.aload_n 0, 1) := by decide +kernel
theorem kd_L_law_299 : decode code 299 = .ok (.iload_n 3, 1) := by decide +kernel
theorem kd_L_law_300 : decode code 300 = .ok (.iconst 2, 1) := by decide +kernel
theorem kd_L_law_301 : decode code 301 = .ok (.iadd, 1) := by decide +kernel
theorem kd_L_law_302 : decode code 302 = .ok (.iaload, 1) := by decide +kernel
theorem kd_L_law_303 : decode code 303 = .ok (.i2l, 1) := by decide +kernel
theorem kd_L_law_304 : decode code 304 = .ok (.bipush 32, 2) := by decide +kernel
theorem kd_L_law_306 : decode code 306 = .ok (.lshl, 1) := by decide +kernel
theorem kd_L_law_307 : decode code 307 = .ok (.aload_n 0, 1) := by decide +kernel
theorem kd_L_law_308 : decode code 308 = .ok (.iload_n 3, 1) := by decide +kernel
theorem kd_L_law_309 : decode code 309 = .ok (.iconst 3, 1) := by decide +kernel
theorem kd_L_law_310 : decode code 310 = .ok (.iadd, 1) := by decide +kernel
theorem kd_L_law_311 : decode code 311 = .ok (.iaload, 1) := by decide +kernel
theorem kd_L_law_312 : decode code 312 = .ok (.i2l, 1) := by decide +kernel
theorem kd_L_law_313 : decode code 313 = .ok (.ldc2_w 26, 3) := by decide +kernel
theorem kd_L_law_316 : decode code 316 = .ok (.land, 1) := by decide +kernel
theorem kd_L_law_317 : decode code 317 = .ok (.lor, 1) := by decide +kernel
theorem kd_L_law_318 : decode code 318 = .ok (.invokevirtual 43, 3) := by decide +kernel
theorem kd_L_law_321 : decode code 321 = .ok (.aload_n 2, 1) := by decide +kernel
theorem kd_L_law_322 : decode code 322 = .ok (.aload_n 0, 1) := by decide +kernel
theorem kd_L_law_323 : decode code 323 = .ok (.iload_n 3, 1) := by decide +kernel
theorem kd_L_law_324 : decode code 324 = .ok (.iconst 1, 1) := by decide +kernel
theorem kd_L_law_325 : decode code 325 = .ok (.iadd, 1) := by decide +kernel
theorem kd_L_law_326 : decode code 326 = .ok (.iaload, 1) := by decide +kernel
theorem kd_L_law_327 : decode code 327 = .ok (.aload_n 0, 1) := by decide +kernel
theorem kd_L_law_328 : decode code 328 = .ok (.iload_n 3, 1) := by decide +kernel
theorem kd_L_law_329 : decode code 329 = .ok (.iconst 2, 1) := by decide +kernel
theorem kd_L_law_330 : decode code 330 = .ok (.iadd, 1) := by decide +kernel
theorem kd_L_law_331 : decode code 331 = .ok (.iaload, 1) := by decide +kernel
theorem kd_L_law_332 : decode code 332 = .ok (.i2l, 1) := by decide +kernel
theorem kd_L_law_333 : decode code 333 = .ok (.bipush 32, 2) := by decide +kernel
theorem kd_L_law_335 : decode code 335 = .ok (.lshl, 1) := by decide +kernel
theorem kd_L_law_336 : decode code 336 = .ok (.aload_n 0, 1) := by decide +kernel
theorem kd_L_law_337 : decode code 337 = .ok (.iload_n 3, 1) := by decide +kernel
theorem kd_L_law_338 : decode code 338 = .ok (.iconst 3, 1) := by decide +kernel
theorem kd_L_law_339 : decode code 339 = .ok (.iadd, 1) := by decide +kernel
theorem kd_L_law_340 : decode code 340 = .ok (.iaload, 1) := by decide +kernel
theorem kd_L_law_341 : decode code 341 = .ok (.i2l, 1) := by decide +kernel
theorem kd_L_law_342 : decode code 342 = .ok (.ldc2_w 26, 3) := by decide +kernel
theorem kd_L_law_345 : decode code 345 = .ok (.land, 1) := by decide +kernel
theorem kd_L_law_346 : decode code 346 = .ok (.lor, 1) := by decide +kernel
theorem kd_L_law_347 : decode code 347 = .ok (.invokevirtual 46, 3) := by decide +kernel
theorem kd_L_law_350 : decode code 350 = .ok (.if_icmp .eq 308, 3) := by decide +kernel
theorem kd_L_law_353 : decode code 353 = .ok (.iconst 0, 1) := by decide +kernel
theorem kd_L_law_354 : decode code 354 = .ok (.ireturn, 1) := by decide +kernel
theorem kd_L_law_355 : decode code 355 = .ok (.aload_n 1, 1) := by decide +kernel
theorem kd_L_law_356 : decode code 356 = .ok (.aload_n 0, 1) := by decide +kernel
theorem kd_L_law_357 : decode code 357 = .ok (.iload_n 3, 1) := by decide +kernel
theorem kd_L_law_358 : decode code 358 = .ok (.iconst 1, 1) := by decide +kernel
theorem kd_L_law_359 : decode code 359 = .ok (.iadd, 1) := by decide +kernel
theorem kd_L_law_360 : decode code 360 = .ok (.iaload, 1) := by decide +kernel
theorem kd_L_law_361 : decode code 361 = .ok (.aload_n 0, 1) := by decide +kernel
theorem kd_L_law_362 : decode code 362 = .ok (.iload_n 3, 1) := by decide +kernel
theorem kd_L_law_363 : decode code 363 = .ok (.iconst 2, 1) := by decide +kernel
theorem kd_L_law_364 : decode code 364 = .ok (.iadd, 1) := by decide +kernel
theorem kd_L_law_365 : decode code 365 = .ok (.iaload, 1) := by decide +kernel
theorem kd_L_law_366 : decode code 366 = .ok (.aload_n 0, 1) := by decide +kernel
theorem kd_L_law_367 : decode code 367 = .ok (.iload_n 3, 1) := by decide +kernel
theorem kd_L_law_368 : decode code 368 = .ok (.iconst 3, 1) := by decide +kernel
theorem kd_L_law_369 : decode code 369 = .ok (.iadd, 1) := by decide +kernel
theorem kd_L_law_370 : decode code 370 = .ok (.iaload, 1) := by decide +kernel
theorem kd_L_law_371 : decode code 371 = .ok (.ifCond .eq 7, 3) := by decide +kernel
theorem kd_L_law_374 : decode code 374 = .ok (.iconst 1, 1) := by decide +kernel
theorem kd_L_law_375 : decode code 375 = .ok (.goto 4, 3) := by decide +kernel
theorem kd_L_law_378 : decode code 378 = .ok (.iconst 0, 1) := by decide +kernel
theorem kd_L_law_379 : decode code 379 = .ok (.invokevirtual 47, 3) := by decide +kernel
theorem kd_L_law_382 : decode code 382 = .ok (.aload_n 2, 1) := by decide +kernel
theorem kd_L_law_383 : decode code 383 = .ok (.aload_n 0, 1) := by decide +kernel
theorem kd_L_law_384 : decode code 384 = .ok (.iload_n 3, 1) := by decide +kernel
theorem kd_L_law_385 : decode code 385 = .ok (.iconst 1, 1) := by decide +kernel
theorem kd_L_law_386 : decode code 386 = .ok (.iadd, 1) := by decide +kernel
theorem kd_L_law_387 : decode code 387 = .ok (.iaload, 1) := by decide +kernel
theorem kd_L_law_388 : decode code 388 = .ok (.aload_n 0, 1) := by decide +kernel
theorem kd_L_law_389 : decode code 389 = .ok (.iload_n 3, 1) := by decide +kernel
theorem kd_L_law_390 : decode code 390 = .ok (.iconst 2, 1) := by decide +kernel
theorem kd_L_law_391 : decode code 391 = .ok (.iadd, 1) := by decide +kernel
theorem kd_L_law_392 : decode code 392 = .ok (.iaload, 1) := by decide +kernel
theorem kd_L_law_393 : decode code 393 = .ok (.aload_n 0, 1) := by decide +kernel
theorem kd_L_law_394 : decode code 394 = .ok (.iload_n 3, 1) := by decide +kernel
theorem kd_L_law_395 : decode code 395 = .ok (.iconst 3, 1) := by decide +kernel
theorem kd_L_law_396 : decode code 396 = .ok (.iadd, 1) := by decide +kernel
theorem kd_L_law_397 : decode code 397 = .ok (.iaload, 1) := by decide +kernel
theorem kd_L_law_398 : decode code 398 = .ok (.ifCond .eq 7, 3) := by decide +kernel
theorem kd_L_law_401 : decode code 401 = .ok (.iconst 1, 1) := by decide +kernel
theorem kd_L_law_402 : decode code 402 = .ok (.goto 4, 3) := by decide +kernel
theorem kd_L_law_405 : decode code 405 = .ok (.iconst 0, 1) := by decide +kernel
theorem kd_L_law_406 : decode code 406 = .ok (.invokevirtual 51, 3) := by decide +kernel
theorem kd_L_law_409 : decode code 409 = .ok (.if_icmp .eq 249, 3) := by decide +kernel
theorem kd_L_law_412 : decode code 412 = .ok (.iconst 0, 1) := by decide +kernel
theorem kd_L_law_413 : decode code 413 = .ok (.ireturn, 1) := by decide +kernel
theorem kd_L_law_414 : decode code 414 = .ok (.aload_n 1, 1) := by decide +kernel
theorem kd_L_law_415 : decode code 415 = .ok (.aload_n 0, 1) := by decide +kernel
theorem kd_L_law_416 : decode code 416 = .ok (.iload_n 3, 1) := by decide +kernel
theorem kd_L_law_417 : decode code 417 = .ok (.iconst 1, 1) := by decide +kernel
theorem kd_L_law_418 : decode code 418 = .ok (.iadd, 1) := by decide +kernel
theorem kd_L_law_419 : decode code 419 = .ok (.iaload, 1) := by decide +kernel
theorem kd_L_law_420 : decode code 420 = .ok (.aload_n 0, 1) := by decide +kernel
theorem kd_L_law_421 : decode code 421 = .ok (.iload_n 3, 1) := by decide +kernel
theorem kd_L_law_422 : decode code 422 = .ok (.iconst 2, 1) := by decide +kernel
theorem kd_L_law_423 : decode code 423 = .ok (.iadd, 1) := by decide +kernel
theorem kd_L_law_424 : decode code 424 = .ok (.iaload, 1) := by decide +kernel
theorem kd_L_law_425 : decode code 425 = .ok (.i2l, 1) := by decide +kernel
theorem kd_L_law_426 : decode code 426 = .ok (.bipush 32, 2) := by decide +kernel
theorem kd_L_law_428 : decode code 428 = .ok (.lshl, 1) := by decide +kernel
theorem kd_L_law_429 : decode code 429 = .ok (.aload_n 0, 1) := by decide +kernel
theorem kd_L_law_430 : decode code 430 = .ok (.iload_n 3, 1) := by decide +kernel
theorem kd_L_law_431 : decode code 431 = .ok (.iconst 3, 1) := by decide +kernel
theorem kd_L_law_432 : decode code 432 = .ok (.iadd, 1) := by decide +kernel
theorem kd_L_law_433 : decode code 433 = .ok (.iaload, 1) := by decide +kernel
theorem kd_L_law_434 : decode code 434 = .ok (.i2l, 1) := by decide +kernel
theorem kd_L_law_435 : decode code 435 = .ok (.ldc2_w 26, 3) := by decide +kernel
theorem kd_L_law_438 : decode code 438 = .ok (.land, 1) := by decide +kernel
theorem kd_L_law_439 : decode code 439 = .ok (.lor, 1) := by decide +kernel
theorem kd_L_law_440 : decode code 440 = .ok (.invokevirtual 52, 3) := by decide +kernel
theorem kd_L_law_443 : decode code 443 = .ok (.aload_n 2, 1) := by decide +kernel
theorem kd_L_law_444 : decode code 444 = .ok (.aload_n 0, 1) := by decide +kernel
theorem kd_L_law_445 : decode code 445 = .ok (.iload_n 3, 1) := by decide +kernel
theorem kd_L_law_446 : decode code 446 = .ok (.iconst 1, 1) := by decide +kernel
theorem kd_L_law_447 : decode code 447 = .ok (.iadd, 1) := by decide +kernel
theorem kd_L_law_448 : decode code 448 = .ok (.iaload, 1) := by decide +kernel
theorem kd_L_law_449 : decode code 449 = .ok (.aload_n 0, 1) := by decide +kernel
theorem kd_L_law_450 : decode code 450 = .ok (.iload_n 3, 1) := by decide +kernel
theorem kd_L_law_451 : decode code 451 = .ok (.iconst 2, 1) := by decide +kernel
theorem kd_L_law_452 : decode code 452 = .ok (.iadd, 1) := by decide +kernel
theorem kd_L_law_453 : decode code 453 = .ok (.iaload, 1) := by decide +kernel
theorem kd_L_law_454 : decode code 454 = .ok (.i2l, 1) := by decide +kernel
theorem kd_L_law_455 : decode code 455 = .ok (.bipush 32, 2) := by decide +kernel
theorem kd_L_law_457 : decode code 457 = .ok (.lshl, 1) := by decide +kernel
theorem kd_L_law_458 : decode code 458 = .ok (.aload_n 0, 1) := by decide +kernel
theorem kd_L_law_459 : decode code 459 = .ok (.iload_n 3, 1) := by decide +kernel
theorem kd_L_law_460 : decode code 460 = .ok (.iconst 3, 1) := by decide +kernel
theorem kd_L_law_461 : decode code 461 = .ok (.iadd, 1) := by decide +kernel
theorem kd_L_law_462 : decode code 462 = .ok (.iaload, 1) := by decide +kernel
theorem kd_L_law_463 : decode code 463 = .ok (.i2l, 1) := by decide +kernel
theorem kd_L_law_464 : decode code 464 = .ok (.ldc2_w 26, 3) := by decide +kernel
theorem kd_L_law_467 : decode code 467 = .ok (.land, 1) := by decide +kernel
theorem kd_L_law_468 : decode code 468 = .ok (.lor, 1) := by decide +kernel
theorem kd_L_law_469 : decode code 469 = .ok (.invokevirtual 55, 3) := by decide +kernel
theorem kd_L_law_472 : decode code 472 = .ok (.if_icmp .eq 186, 3) := by decide +kernel
theorem kd_L_law_475 : decode code 475 = .ok (.iconst 0, 1) := by decide +kernel
theorem kd_L_law_476 : decode code 476 = .ok (.ireturn, 1) := by decide +kernel
theorem kd_L_law_477 : decode code 477 = .ok (.aload_n 1, 1) := by decide +kernel
theorem kd_L_law_478 : decode code 478 = .ok (.aload_n 0, 1) := by decide +kernel
theorem kd_L_law_479 : decode code 479 = .ok (.iload_n 3, 1) := by decide +kernel
theorem kd_L_law_480 : decode code 480 = .ok (.iconst 1, 1) := by decide +kernel
theorem kd_L_law_481 : decode code 481 = .ok (.iadd, 1) := by decide +kernel
theorem kd_L_law_482 : decode code 482 = .ok (.iaload, 1) := by decide +kernel
theorem kd_L_law_483 : decode code 483 = .ok (.aload_n 0, 1) := by decide +kernel
theorem kd_L_law_484 : decode code 484 = .ok (.iload_n 3, 1) := by decide +kernel
theorem kd_L_law_485 : decode code 485 = .ok (.iconst 2, 1) := by decide +kernel
theorem kd_L_law_486 : decode code 486 = .ok (.iadd, 1) := by decide +kernel
theorem kd_L_law_487 : decode code 487 = .ok (.iaload, 1) := by decide +kernel
theorem kd_L_law_488 : decode code 488 = .ok (.invokevirtual 56, 3) := by decide +kernel
theorem kd_L_law_491 : decode code 491 = .ok (.aload_n 2, 1) := by decide +kernel
theorem kd_L_law_492 : decode code 492 = .ok (.aload_n 0, 1) := by decide +kernel
theorem kd_L_law_493 : decode code 493 = .ok (.iload_n 3, 1) := by decide +kernel
theorem kd_L_law_494 : decode code 494 = .ok (.iconst 1, 1) := by decide +kernel
theorem kd_L_law_495 : decode code 495 = .ok (.iadd, 1) := by decide +kernel
theorem kd_L_law_496 : decode code 496 = .ok (.iaload, 1) := by decide +kernel
theorem kd_L_law_497 : decode code 497 = .ok (.aload_n 0, 1) := by decide +kernel
theorem kd_L_law_498 : decode code 498 = .ok (.iload_n 3, 1) := by decide +kernel
theorem kd_L_law_499 : decode code 499 = .ok (.iconst 2, 1) := by decide +kernel
theorem kd_L_law_500 : decode code 500 = .ok (.iadd, 1) := by decide +kernel
theorem kd_L_law_501 : decode code 501 = .ok (.iaload, 1) := by decide +kernel
theorem kd_L_law_502 : decode code 502 = .ok (.invokevirtual 60, 3) := by decide +kernel
theorem kd_L_law_505 : decode code 505 = .ok (.if_icmp .eq 153, 3) := by decide +kernel
theorem kd_L_law_508 : decode code 508 = .ok (.iconst 0, 1) := by decide +kernel
theorem kd_L_law_509 : decode code 509 = .ok (.ireturn, 1) := by decide +kernel
theorem kd_L_law_510 : decode code 510 = .ok (.aload_n 1, 1) := by decide +kernel
theorem kd_L_law_511 : decode code 511 = .ok (.aload_n 0, 1) := by decide +kernel
theorem kd_L_law_512 : decode code 512 = .ok (.iload_n 3, 1) := by decide +kernel
theorem kd_L_law_513 : decode code 513 = .ok (.iconst 1, 1) := by decide +kernel
theorem kd_L_law_514 : decode code 514 = .ok (.iadd, 1) := by decide +kernel
theorem kd_L_law_515 : decode code 515 = .ok (.iaload, 1) := by decide +kernel
theorem kd_L_law_516 : decode code 516 = .ok (.aload_n 0, 1) := by decide +kernel
theorem kd_L_law_517 : decode code 517 = .ok (.iload_n 3, 1) := by decide +kernel
theorem kd_L_law_518 : decode code 518 = .ok (.iconst 2, 1) := by decide +kernel
theorem kd_L_law_519 : decode code 519 = .ok (.iadd, 1) := by decide +kernel
theorem kd_L_law_520 : decode code 520 = .ok (.iaload, 1) := by decide +kernel
theorem kd_L_law_521 : decode code 521 = .ok (.ifCond .eq 7, 3) := by decide +kernel
theorem kd_L_law_524 : decode code 524 = .ok (.iconst 1, 1) := by decide +kernel
theorem kd_L_law_525 : decode code 525 = .ok (.goto 4, 3) := by decide +kernel
theorem kd_L_law_528 : decode code 528 = .ok (.iconst 0, 1) := by decide +kernel
theorem kd_L_law_529 : decode code 529 = .ok (.invokevirtual 61, 3) := by decide +kernel
theorem kd_L_law_532 : decode code 532 = .ok (.aload_n 2, 1) := by decide +kernel
theorem kd_L_law_533 : decode code 533 = .ok (.aload_n 0, 1) := by decide +kernel
theorem kd_L_law_534 : decode code 534 = .ok (.iload_n 3, 1) := by decide +kernel
theorem kd_L_law_535 : decode code 535 = .ok (.iconst 1, 1) := by decide +kernel
theorem kd_L_law_536 : decode code 536 = .ok (.iadd, 1) := by decide +kernel
theorem kd_L_law_537 : decode code 537 = .ok (.iaload, 1) := by decide +kernel
theorem kd_L_law_538 : decode code 538 = .ok (.aload_n 0, 1) := by decide +kernel
theorem kd_L_law_539 : decode code 539 = .ok (.iload_n 3, 1) := by decide +kernel
theorem kd_L_law_540 : decode code 540 = .ok (.iconst 2, 1) := by decide +kernel
theorem kd_L_law_541 : decode code 541 = .ok (.iadd, 1) := by decide +kernel
theorem kd_L_law_542 : decode code 542 = .ok (.iaload, 1) := by decide +kernel
theorem kd_L_law_543 : decode code 543 = .ok (.ifCond .eq 7, 3) := by decide +kernel
theorem kd_L_law_546 : decode code 546 = .ok (.iconst 1, 1) := by decide +kernel
theorem kd_L_law_547 : decode code 547 = .ok (.goto 4, 3) := by decide +kernel
theorem kd_L_law_550 : decode code 550 = .ok (.iconst 0, 1) := by decide +kernel
theorem kd_L_law_551 : decode code 551 = .ok (.invokevirtual 64, 3) := by decide +kernel
theorem kd_L_law_554 : decode code 554 = .ok (.if_icmp .eq 104, 3) := by decide +kernel
theorem kd_L_law_557 : decode code 557 = .ok (.iconst 0, 1) := by decide +kernel
theorem kd_L_law_558 : decode code 558 = .ok (.ireturn, 1) := by decide +kernel
theorem kd_L_law_559 : decode code 559 = .ok (.aload_n 1, 1) := by decide +kernel
theorem kd_L_law_560 : decode code 560 = .ok (.aload_n 0, 1) := by decide +kernel
theorem kd_L_law_561 : decode code 561 = .ok (.iload_n 3, 1) := by decide +kernel
theorem kd_L_law_562 : decode code 562 = .ok (.iconst 1, 1) := by decide +kernel
theorem kd_L_law_563 : decode code 563 = .ok (.iadd, 1) := by decide +kernel
theorem kd_L_law_564 : decode code 564 = .ok (.iaload, 1) := by decide +kernel
theorem kd_L_law_565 : decode code 565 = .ok (.invokevirtual 65, 3) := by decide +kernel
theorem kd_L_law_568 : decode code 568 = .ok (.aload_n 2, 1) := by decide +kernel
theorem kd_L_law_569 : decode code 569 = .ok (.aload_n 0, 1) := by decide +kernel
theorem kd_L_law_570 : decode code 570 = .ok (.iload_n 3, 1) := by decide +kernel
theorem kd_L_law_571 : decode code 571 = .ok (.iconst 1, 1) := by decide +kernel
theorem kd_L_law_572 : decode code 572 = .ok (.iadd, 1) := by decide +kernel
theorem kd_L_law_573 : decode code 573 = .ok (.iaload, 1) := by decide +kernel
theorem kd_L_law_574 : decode code 574 = .ok (.invokevirtual 68, 3) := by decide +kernel
theorem kd_L_law_577 : decode code 577 = .ok (.if_icmp .eq 81, 3) := by decide +kernel
theorem kd_L_law_580 : decode code 580 = .ok (.iconst 0, 1) := by decide +kernel
theorem kd_L_law_581 : decode code 581 = .ok (.ireturn, 1) := by decide +kernel
theorem kd_L_law_582 : decode code 582 = .ok (.aload_n 1, 1) := by decide +kernel
theorem kd_L_law_583 : decode code 583 = .ok (.aload_n 0, 1) := by decide +kernel
theorem kd_L_law_584 : decode code 584 = .ok (.iload_n 3, 1) := by decide +kernel
theorem kd_L_law_585 : decode code 585 = .ok (.iconst 1, 1) := by decide +kernel
theorem kd_L_law_586 : decode code 586 = .ok (.iadd, 1) := by decide +kernel
theorem kd_L_law_587 : decode code 587 = .ok (.iaload, 1) := by decide +kernel
theorem kd_L_law_588 : decode code 588 = .ok (.aload_n 0, 1) := by decide +kernel
theorem kd_L_law_589 : decode code 589 = .ok (.iload_n 3, 1) := by decide +kernel
theorem kd_L_law_590 : decode code 590 = .ok (.iconst 2, 1) := by decide +kernel
theorem kd_L_law_591 : decode code 591 = .ok (.iadd, 1) := by decide +kernel
theorem kd_L_law_592 : decode code 592 = .ok (.iaload, 1) := by decide +kernel
theorem kd_L_law_593 : decode code 593 = .ok (.i2l, 1) := by decide +kernel
theorem kd_L_law_594 : decode code 594 = .ok (.bipush 32, 2) := by decide +kernel
theorem kd_L_law_596 : decode code 596 = .ok (.lshl, 1) := by decide +kernel
theorem kd_L_law_597 : decode code 597 = .ok (.aload_n 0, 1) := by decide +kernel
theorem kd_L_law_598 : decode code 598 = .ok (.iload_n 3, 1) := by decide +kernel
theorem kd_L_law_599 : decode code 599 = .ok (.iconst 3, 1) := by decide +kernel
theorem kd_L_law_600 : decode code 600 = .ok (.iadd, 1) := by decide +kernel
theorem kd_L_law_601 : decode code 601 = .ok (.iaload, 1) := by decide +kernel
theorem kd_L_law_602 : decode code 602 = .ok (.i2l, 1) := by decide +kernel
theorem kd_L_law_603 : decode code 603 = .ok (.ldc2_w 26, 3) := by decide +kernel
theorem kd_L_law_606 : decode code 606 = .ok (.land, 1) := by decide +kernel
theorem kd_L_law_607 : decode code 607 = .ok (.lor, 1) := by decide +kernel
theorem kd_L_law_608 : decode code 608 = .ok (.invokevirtual 69, 3) := by decide +kernel
theorem kd_L_law_611 : decode code 611 = .ok (.aload_n 2, 1) := by decide +kernel
theorem kd_L_law_612 : decode code 612 = .ok (.aload_n 0, 1) := by decide +kernel
theorem kd_L_law_613 : decode code 613 = .ok (.iload_n 3, 1) := by decide +kernel
theorem kd_L_law_614 : decode code 614 = .ok (.iconst 1, 1) := by decide +kernel
theorem kd_L_law_615 : decode code 615 = .ok (.iadd, 1) := by decide +kernel
theorem kd_L_law_616 : decode code 616 = .ok (.iaload, 1) := by decide +kernel
theorem kd_L_law_617 : decode code 617 = .ok (.aload_n 0, 1) := by decide +kernel
theorem kd_L_law_618 : decode code 618 = .ok (.iload_n 3, 1) := by decide +kernel
theorem kd_L_law_619 : decode code 619 = .ok (.iconst 2, 1) := by decide +kernel
theorem kd_L_law_620 : decode code 620 = .ok (.iadd, 1) := by decide +kernel
theorem kd_L_law_621 : decode code 621 = .ok (.iaload, 1) := by decide +kernel
theorem kd_L_law_622 : decode code 622 = .ok (.i2l, 1) := by decide +kernel
theorem kd_L_law_623 : decode code 623 = .ok (.bipush 32, 2) := by decide +kernel
theorem kd_L_law_625 : decode code 625 = .ok (.lshl, 1) := by decide +kernel
theorem kd_L_law_626 : decode code 626 = .ok (.aload_n 0, 1) := by decide +kernel
theorem kd_L_law_627 : decode code 627 = .ok (.iload_n 3, 1) := by decide +kernel
theorem kd_L_law_628 : decode code 628 = .ok (.iconst 3, 1) := by decide +kernel
theorem kd_L_law_629 : decode code 629 = .ok (.iadd, 1) := by decide +kernel
theorem kd_L_law_630 : decode code 630 = .ok (.iaload, 1) := by decide +kernel
theorem kd_L_law_631 : decode code 631 = .ok (.i2l, 1) := by decide +kernel
theorem kd_L_law_632 : decode code 632 = .ok (.ldc2_w 26, 3) := by decide +kernel
theorem kd_L_law_635 : decode code 635 = .ok (.land, 1) := by decide +kernel
theorem kd_L_law_636 : decode code 636 = .ok (.lor, 1) := by decide +kernel
theorem kd_L_law_637 : decode code 637 = .ok (.invokevirtual 72, 3) := by decide +kernel
theorem kd_L_law_640 : decode code 640 = .ok (.if_icmp .eq 18, 3) := by decide +kernel
theorem kd_L_law_643 : decode code 643 = .ok (.iconst 0, 1) := by decide +kernel
theorem kd_L_law_644 : decode code 644 = .ok (.ireturn, 1) := by decide +kernel
theorem kd_L_law_645 : decode code 645 = .ok (.aload_n 1, 1) := by decide +kernel
theorem kd_L_law_646 : decode code 646 = .ok (.invokevirtual 73, 3) := by decide +kernel
theorem kd_L_law_649 : decode code 649 = .ok (.aload_n 2, 1) := by decide +kernel
theorem kd_L_law_650 : decode code 650 = .ok (.invokevirtual 77, 3) := by decide +kernel
theorem kd_L_law_653 : decode code 653 = .ok (.if_icmp .eq 5, 3) := by decide +kernel
theorem kd_L_law_656 : decode code 656 = .ok (.iconst 0, 1) := by decide +kernel
theorem kd_L_law_657 : decode code 657 = .ok (.ireturn, 1) := by decide +kernel
theorem kd_L_law_658 : decode code 658 = .ok (.iinc 3 4, 3) := by decide +kernel
theorem kd_L_law_661 : decode code 661 = .ok (.goto (-633), 3) := by decide +kernel
theorem kd_L_law_664 : decode code 664 = .ok (.iconst 1, 1) := by decide +kernel
theorem kd_L_law_665 : decode code 665 = .ok (.ireturn, 1) := by decide +kernel
