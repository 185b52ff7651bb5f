/-! decode rows of the law -/
theorem d_L_law_0 : decode code 0 = .ok (.new 7, 3) := by decide +kernel
theorem d_L_law_3 : decode code 3 = .ok (.dup, 1) := by decide +kernel
theorem d_L_law_4 : decode code 4 = .ok (.aload_n 0, 1) := by decide +kernel
theorem d_L_law_5 : decode code 5 = .ok (.iconst 0, 1) := by decide +kernel
theorem d_L_law_6 : decode code 6 = .ok (.invokestatic 9, 3) := by decide +kernel
theorem d_L_law_9 : decode code 9 = .ok (.invokespecial 15, 3) := by decide +kernel
theorem d_L_law_12 : decode code 12 = .ok (.astore_n 1, 1) := by decide +kernel
theorem d_L_law_13 : decode code 13 = .ok (.new 18, 3) := by decide +kernel
theorem d_L_law_16 : decode code 16 = .ok (.dup, 1) := by decide +kernel
theorem d_L_law_17 : decode code 17 = .ok (.aload_n 0, 1) := by decide +kernel
theorem d_L_law_18 : decode code 18 = .ok (.iconst 0, 1) := by decide +kernel
theorem d_L_law_19 : decode code 19 = .ok (.invokestatic 9, 3) := by decide +kernel
theorem d_L_law_22 : decode code 22 = .ok (.invokespecial 20, 3) := by decide +kernel
theorem d_L_law_25 : decode code 25 = .ok (.astore_n 2, 1) := by decide +kernel
theorem d_L_law_26 : decode code 26 = .ok (.iconst 1, 1) := by decide +kernel
theorem d_L_law_27 : decode code 27 = .ok (.istore_n 3, 1) := by decide +kernel
theorem d_L_law_28 : decode code 28 = .ok (.iload_n 3, 1) := by decide +kernel
theorem d_L_law_29 : decode code 29 = .ok (.aload_n 0, 1) := by decide +kernel
theorem d_L_law_30 : decode code 30 = .ok (.arraylength, 1) := by decide +kernel
theorem d_L_law_31 : decode code 31 = .ok (.iconst 4, 1) := by decide +kernel
theorem d_L_law_32 : decode code 32 = .ok (.isub, 1) := by decide +kernel
theorem d_L_law_33 : decode code 33 = .ok (.if_icmp .gt 592, 3) := by decide +kernel
theorem d_L_law_36 : decode code 36 = .ok (.aload_n 0, 1) := by decide +kernel
theorem d_L_law_37 : decode code 37 = .ok (.iload_n 3, 1) := by decide +kernel
theorem d_L_law_38 : decode code 38 = .ok (.iaload, 1) := by decide +kernel
theorem d_L_law_39 : decode code 39 = .ok (.bipush 31, 2) := by decide +kernel
theorem d_L_law_41 : decode code 41 = .ok (.iand, 1) := by decide +kernel
theorem d_L_law_42 : decode code 42 = .ok (.tableswitch 577 0 18 #[90, 123, 156, 189, 222, 245, 268, 291, 304, 337, 380, 413, 426, 459, 472, 505, 518, 531, 564], 90) := by decide +kernel
theorem d_L_law_132 : decode code 132 = .ok (.aload_n 1, 1) := by decide +kernel
theorem d_L_law_133 : decode code 133 = .ok (.aload_n 0, 1) := by decide +kernel
theorem d_L_law_134 : decode code 134 = .ok (.iload_n 3, 1) := by decide +kernel
theorem d_L_law_135 : decode code 135 = .ok (.iconst 1, 1) := by decide +kernel
theorem d_L_law_136 : decode code 136 = .ok (.iadd, 1) := by decide +kernel
theorem d_L_law_137 : decode code 137 = .ok (.iaload, 1) := by decide +kernel
theorem d_L_law_138 : decode code 138 = .ok (.aload_n 0, 1) := by decide +kernel
theorem d_L_law_139 : decode code 139 = .ok (.iload_n 3, 1) := by decide +kernel
theorem d_L_law_140 : decode code 140 = .ok (.iconst 2, 1) := by decide +kernel
theorem d_L_law_141 : decode code 141 = .ok (.iadd, 1) := by decide +kernel
theorem d_L_law_142 : decode code 142 = .ok (.iaload, 1) := by decide +kernel
theorem d_L_law_143 : decode code 143 = .ok (.invokevirtual 21, 3) := by decide +kernel
theorem d_L_law_146 : decode code 146 = .ok (.aload_n 2, 1) := by decide +kernel
theorem d_L_law_147 : decode code 147 = .ok (.aload_n 0, 1) := by decide +kernel
theorem d_L_law_148 : decode code 148 = .ok (.iload_n 3, 1) := by decide +kernel
theorem d_L_law_149 : decode code 149 = .ok (.iconst 1, 1) := by decide +kernel
theorem d_L_law_150 : decode code 150 = .ok (.iadd, 1) := by decide +kernel
theorem d_L_law_151 : decode code 151 = .ok (.iaload, 1) := by decide +kernel
theorem d_L_law_152 : decode code 152 = .ok (.aload_n 0, 1) := by decide +kernel
theorem d_L_law_153 : decode code 153 = .ok (.iload_n 3, 1) := by decide +kernel
theorem d_L_law_154 : decode code 154 = .ok (.iconst 2, 1) := by decide +kernel
theorem d_L_law_155 : decode code 155 = .ok (.iadd, 1) := by decide +kernel
theorem d_L_law_156 : decode code 156 = .ok (.iaload, 1) := by decide +kernel
theorem d_L_law_157 : decode code 157 = .ok (.invokevirtual 25, 3) := by decide +kernel
theorem d_L_law_160 : decode code 160 = .ok (.if_icmp .eq 459, 3) := by decide +kernel
theorem d_L_law_163 : decode code 163 = .ok (.iconst 0, 1) := by decide +kernel
theorem d_L_law_164 : decode code 164 = .ok (.ireturn, 1) := by decide +kernel
theorem d_L_law_165 : decode code 165 = .ok (.aload_n 1, 1) := by decide +kernel
theorem d_L_law_166 : decode code 166 = .ok (.aload_n 0, 1) := by decide +kernel
theorem d_L_law_167 : decode code 167 = .ok (.iload_n 3, 1) := by decide +kernel
theorem d_L_law_168 : decode code 168 = .ok (.iconst 1, 1) := by decide +kernel
theorem d_L_law_169 : decode code 169 = .ok (.iadd, 1) := by decide +kernel
theorem d_L_law_170 : decode code 170 = .ok (.iaload, 1) := by decide +kernel
theorem d_L_law_171 : decode code 171 = .ok (.aload_n 0, 1) := by decide +kernel
theorem d_L_law_172 : decode code 172 = .ok (.iload_n 3, 1) := by decide +kernel
theorem d_L_law_173 : decode code 173 = .ok (.iconst 2, 1) := by decide +kernel
theorem d_L_law_174 : decode code 174 = .ok (.iadd, 1) := by decide +kernel
theorem d_L_law_175 : decode code 175 = .ok (.iaload, 1) := by decide +kernel
theorem d_L_law_176 : decode code 176 = .ok (.invokevirtual 26, 3) := by decide +kernel
theorem d_L_law_179 : decode code 179 = .ok (.aload_n 2, 1) := by decide +kernel
theorem d_L_law_180 : decode code 180 = .ok (.aload_n 0, 1) := by decide +kernel
theorem d_L_law_181 : decode code 181 = .ok (.iload_n 3, 1) := by decide +kernel
theorem d_L_law_182 : decode code 182 = .ok (.iconst 1, 1) := by decide +kernel
theorem d_L_law_183 : decode code 183 = .ok (.iadd, 1) := by decide +kernel
theorem d_L_law_184 : decode code 184 = .ok (.iaload, 1) := by decide +kernel
theorem d_L_law_185 : decode code 185 = .ok (.aload_n 0, 1) := by decide +kernel
theorem d_L_law_186 : decode code 186 = .ok (.iload_n 3, 1) := by decide +kernel
theorem d_L_law_187 : decode code 187 = .ok (.iconst 2, 1) := by decide +kernel
theorem d_L_law_188 : decode code 188 = .ok (.iadd, 1) := by decide +kernel
theorem d_L_law_189 : decode code 189 = .ok (.iaload, 1) := by decide +kernel
theorem d_L_law_190 : decode code 190 = .ok (.invokevirtual 29, 3) := by decide +kernel
theorem d_L_law_193 : decode code 193 = .ok (.if_icmp .eq 426, 3) := by decide +kernel
theorem d_L_law_196 : decode code 196 = .ok (.iconst 0, 1) := by decide +kernel
theorem d_L_law_197 : decode code 197 = .ok (.ireturn, 1) := by decide +kernel
theorem d_L_law_198 : decode code 198 = .ok (.aload_n 1, 1) := by decide +kernel
theorem d_L_law_199 : decode code 199 = .ok (.aload_n 0, 1) := by decide +kernel
theorem d_L_law_200 : decode code 200 = .ok (.iload_n 3, 1) := by decide +kernel
theorem d_L_law_201 : decode code 201 = .ok (.iconst 1, 1) := by decide +kernel
theorem d_L_law_202 : decode code 202 = .ok (.iadd, 1) := by decide +kernel
theorem d_L_law_203 : decode code 203 = .ok (.iaload, 1) := by decide +kernel
theorem d_L_law_204 : decode code 204 = .ok (.aload_n 0, 1) := by decide +kernel
theorem d_L_law_205 : decode code 205 = .ok (.iload_n 3, 1) := by decide +kernel
theorem d_L_law_206 : decode code 206 = .ok (.iconst 2, 1) := by decide +kernel
theorem d_L_law_207 : decode code 207 = .ok (.iadd, 1) := by decide +kernel
theorem d_L_law_208 : decode code 208 = .ok (.iaload, 1) := by decide +kernel
theorem d_L_law_209 : decode code 209 = .ok (.invokevirtual 30, 3) := by decide +kernel
theorem d_L_law_212 : decode code 212 = .ok (.aload_n 2, 1) := by decide +kernel
theorem d_L_law_213 : decode code 213 = .ok (.aload_n 0, 1) := by decide +kernel
theorem d_L_law_214 : decode code 214 = .ok (.iload_n 3, 1) := by decide +kernel
theorem d_L_law_215 : decode code 215 = .ok (.iconst 1, 1) := by decide +kernel
theorem d_L_law_216 : decode code 216 = .ok (.iadd, 1) := by decide +kernel
theorem d_L_law_217 : decode code 217 = .ok (.iaload, 1) := by decide +kernel
theorem d_L_law_218 : decode code 218 = .ok (.aload_n 0, 1) := by decide +kernel
theorem d_L_law_219 : decode code 219 = .ok (.iload_n 3, 1) := by decide +kernel
theorem d_L_law_220 : decode code 220 = .ok (.iconst 2, 1) := by decide +kernel
theorem d_L_law_221 : decode code 221 = .ok (.iadd, 1) := by decide +kernel
theorem d_L_law_222 : decode code 222 = .ok (.iaload, 1) := by decide +kernel
theorem d_L_law_223 : decode code 223 = .ok (.invokevirtual 33, 3) := by decide +kernel
theorem d_L_law_226 : decode code 226 = .ok (.if_icmp .eq 393, 3) := by decide +kernel
theorem d_L_law_229 : decode code 229 = .ok (.iconst 0, 1) := by decide +kernel
theorem d_L_law_230 : decode code 230 = .ok (.ireturn, 1) := by decide +kernel
theorem d_L_law_231 : decode code 231 = .ok (.aload_n 1, 1) := by decide +kernel
theorem d_L_law_232 : decode code 232 = .ok (.aload_n 0, 1) := by decide +kernel
theorem d_L_law_233 : decode code 233 = .ok (.iload_n 3, 1) := by decide +kernel
theorem d_L_law_234 : decode code 234 = .ok (.iconst 1, 1) := by decide +kernel
theorem d_L_law_235 : decode code 235 = .ok (.iadd, 1) := by decide +kernel
theorem d_L_law_236 : decode code 236 = .ok (.iaload, 1) := by decide +kernel
theorem d_L_law_237 : decode code 237 = .ok (.aload_n 0, 1) := by decide +kernel
theorem d_L_law_238 : decode code 238 = .ok (.iload_n 3, 1) := by decide +kernel
theorem d_L_law_239 : decode code 239 = .ok (.iconst 2, 1) := by decide +kernel
theorem d_L_law_240 : decode code 240 = .ok (.iadd, 1) := by decide +kernel
theorem d_L_law_241 : decode code 241 = .ok (.iaload, 1) := by decide +kernel
theorem d_L_law_242 : decode code 242 = .ok (.invokevirtual 34, 3) := by decide +kernel
theorem d_L_law_245 : decode code 245 = .ok (.aload_n 2, 1) := by decide +kernel
theorem d_L_law_246 : decode code 246 = .ok (.aload_n 0, 1) := by decide +kernel
theorem d_L_law_247 : decode code 247 = .ok (.iload_n 3, 1) := by decide +kernel
theorem d_L_law_248 : decode code 248 = .ok (.iconst 1, 1) := by decide +kernel
theorem d_L_law_249 : decode code 249 = .ok (.iadd, 1) := by decide +kernel
theorem d_L_law_250 : decode code 250 = .ok (.iaload, 1) := by decide +kernel
theorem d_L_law_251 : decode code 251 = .ok (.aload_n 0, 1) := by decide +kernel
theorem d_L_law_252 : decode code 252 = .ok (.iload_n 3, 1) := by decide +kernel
theorem d_L_law_253 : decode code 253 = .ok (.iconst 2, 1) := by decide +kernel
theorem d_L_law_254 : decode code 254 = .ok (.iadd, 1) := by decide +kernel
theorem d_L_law_255 : decode code 255 = .ok (.iaload, 1) := by decide +kernel
theorem d_L_law_256 : decode code 256 = .ok (.invokevirtual 37, 3) := by decide +kernel
theorem d_L_law_259 : decode code 259 = .ok (.if_icmp .eq 360, 3) := by decide +kernel
theorem d_L_law_262 : decode code 262 = .ok (.iconst 0, 1) := by decide +kernel
theorem d_L_law_263 : decode code 263 = .ok (.ireturn, 1) := by decide +kernel
theorem d_L_law_264 : decode code 264 = .ok (.aload_n 1, 1) := by decide +kernel
theorem d_L_law_265 : decode code 265 = .ok (.aload_n 0, 1) := by decide +kernel
theorem d_L_law_266 : decode code 266 = .ok (.iload_n 3, 1) := by decide +kernel
theorem d_L_law_267 : decode code 267 = .ok (.iconst 1, 1) := by decide +kernel
theorem d_L_law_268 : decode code 268 = .ok (.iadd, 1) := by decide +kernel
theorem d_L_law_269 : decode code 269 = .ok (.iaload, 1) := by decide +kernel
theorem d_L_law_270 : decode code 270 = .ok (.invokevirtual 38, 3) := by decide +kernel
theorem d_L_law_273 : decode code 273 = .ok (.aload_n 2, 1) := by decide +kernel
theorem d_L_law_274 : decode code 274 = .ok (.aload_n 0, 1) := by decide +kernel
theorem d_L_law_275 : decode code 275 = .ok (.iload_n 3, 1) := by decide +kernel
theorem d_L_law_276 : decode code 276 = .ok (.iconst 1, 1) := by decide +kernel
theorem d_L_law_277 : decode code 277 = .ok (.iadd, 1) := by decide +kernel
theorem d_L_law_278 : decode code 278 = .ok (.iaload, 1) := by decide +kernel
theorem d_L_law_279 : decode code 279 = .ok (.invokevirtual 42, 3) := by decide +kernel
theorem d_L_law_282 : decode code 282 = .ok (.if_icmp .eq 337, 3) := by decide +kernel
theorem d_L_law_285 : decode code 285 = .ok (.iconst 0, 1) := by decide +kernel
theorem d_L_law_286 : decode code 286 = .ok (.ireturn, 1) := by decide +kernel
theorem d_L_law_287 : decode code 287 = .ok (.aload_n 1, 1) := by decide +kernel
theorem d_L_law_288 : decode code 288 = .ok (.aload_n 0, 1) := by decide +kernel
theorem d_L_law_289 : decode code 289 = .ok (.iload_n 3, 1) := by decide +kernel
theorem d_L_law_290 : decode code 290 = .ok (.iconst 1, 1) := by decide +kernel
theorem d_L_law_291 : decode code 291 = .ok (.iadd, 1) := by decide +kernel
theorem d_L_law_292 : decode code 292 = .ok (.iaload, 1) := by decide +kernel
theorem d_L_law_293 : decode code 293 = .ok (.invokevirtual 43, 3) := by decide +kernel
theorem d_L_law_296 : decode code 296 = .ok (.aload_n 2, 1) := by decide +kernel
theorem d_L_law_297 : decode code 297 = .ok (.aload_n 0, 1) := by decide +kernel
theorem d_L_law_298 : decode code 298 = .ok (.iload_n 3, 1) := by decide +kernel
theorem d_L_law_299 : decode code 299 = .ok (.iconst 1, 1) := by decide +kernel
theorem d_L_law_300 : decode code 300 = .ok (.iadd, 1) := by decide +kernel
theorem d_L_law_301 : decode code 301 = .ok (.iaload, 1) := by decide +kernel
theorem d_L_law_302 : decode code 302 = .ok (.invokevirtual 46, 3) := by decide +kernel
theorem d_L_law_305 : decode code 305 = .ok (.if_icmp .eq 314, 3) := by decide +kernel
theorem d_L_law_308 : decode code 308 = .ok (.iconst 0, 1) := by decide +kernel
theorem d_L_law_309 : decode code 309 = .ok (.ireturn, 1) := by decide +kernel
theorem d_L_law_310 : decode code 310 = .ok (.aload_n 1, 1) := by decide +kernel
theorem d_L_law_311 : decode code 311 = .ok (.aload_n 0, 1) := by decide +kernel
theorem d_L_law_312 : decode code 312 = .ok (.iload_n 3, 1) := by decide +kernel
theorem d_L_law_313 : decode code 313 = .ok (.iconst 1, 1) := by decide +kernel
theorem d_L_law_314 : decode code 314 = .ok (.iadd, 1) := by decide +kernel
theorem d_L_law_315 : decode code 315 = .ok (.iaload, 1) := by decide +kernel
theorem d_L_law_316 : decode code 316 = .ok (.invokevirtual 47, 3) := by decide +kernel
theorem d_L_law_319 : decode code 319 = .ok (.aload_n 2, 1) := by decide +kernel
theorem d_L_law_320 : decode code 320 = .ok (.aload_n 0, 1) := by decide +kernel
theorem d_L_law_321 : decode code 321 = .ok (.iload_n 3, 1) := by decide +kernel
theorem d_L_law_322 : decode code 322 = .ok (.iconst 1, 1) := by decide +kernel
theorem d_L_law_323 : decode code 323 = .ok (.iadd, 1) := by decide +kernel
theorem d_L_law_324 : decode code 324 = .ok (.iaload, 1) := by decide +kernel
theorem d_L_law_325 : decode code 325 = .ok (.invokevirtual 50, 3) := by decide +kernel
theorem d_L_law_328 : decode code 328 = .ok (.if_icmp .eq 291, 3) := by decide +kernel
theorem d_L_law_331 : decode code 331 = .ok (.iconst 0, 1) := by decide +kernel
theorem d_L_law_332 : decode code 332 = .ok (.ireturn, 1) := by decide +kernel
theorem d_L_law_333 : decode code 333 = .ok (.aload_n 1, 1) := by decide +kernel
theorem d_L_law_334 : decode code 334 = .ok (.invokevirtual 51, 3) := by decide +kernel
theorem d_L_law_337 : decode code 337 = .ok (.aload_n 2, 1) := by decide +kernel
theorem d_L_law_338 : decode code 338 = .ok (.invokevirtual 55, 3) := by decide +kernel
theorem d_L_law_341 : decode code 341 = .ok (.if_icmp .eq 278, 3) := by decide +kernel
theorem d_L_law_344 : decode code 344 = .ok (.iconst 0, 1) := by decide +kernel
theorem d_L_law_345 : decode code 345 = .ok (.ireturn, 1) := by decide +kernel
theorem d_L_law_346 : decode code 346 = .ok (.aload_n 1, 1) := by decide +kernel
theorem d_L_law_347 : decode code 347 = .ok (.aload_n 0, 1) := by decide +kernel
theorem d_L_law_348 : decode code 348 = .ok (.iload_n 3, 1) := by decide +kernel
theorem d_L_law_349 : decode code 349 = .ok (.iconst 1, 1) := by decide +kernel
theorem d_L_law_350 : decode code 350 = .ok (.iadd, 1) := by decide +kernel
theorem d_L_law_351 : decode code 351 = .ok (.iaload, 1) := by decide +kernel
theorem d_L_law_352 : decode code 352 = .ok (.aload_n 0, 1) := by decide +kernel
theorem d_L_law_353 : decode code 353 = .ok (.iload_n 3, 1) := by decide +kernel
theorem d_L_law_354 : decode code 354 = .ok (.iconst 2, 1) := by decide +kernel
theorem d_L_law_355 : decode code 355 = .ok (.iadd, 1) := by decide +kernel
theorem d_L_law_356 : decode code 356 = .ok (.iaload, 1) := by decide +kernel
theorem d_L_law_357 : decode code 357 = .ok (.invokevirtual 56, 3) := by decide +kernel
theorem d_L_law_360 : decode code 360 = .ok (.aload_n 2, 1) := by decide +kernel
theorem d_L_law_361 : decode code 361 = .ok (.aload_n 0, 1) := by decide +kernel
theorem d_L_law_362 : decode code 362 = .ok (.iload_n 3, 1) := by decide +kernel
theorem d_L_law_363 : decode code 363 = .ok (.iconst 1, 1) := by decide +kernel
theorem d_L_law_364 : decode code 364 = .ok (.iadd, 1) := by decide +kernel
theorem d_L_law_365 : decode code 365 = .ok (.iaload, 1) := by decide +kernel
theorem d_L_law_366 : decode code 366 = .ok (.aload_n 0, 1) := by decide +kernel
theorem d_L_law_367 : decode code 367 = .ok (.iload_n 3, 1) := by decide +kernel
theorem d_L_law_368 : decode code 368 = .ok (.iconst 2, 1) := by decide +kernel
theorem d_L_law_369 : decode code 369 = .ok (.iadd, 1) := by decide +kernel
theorem d_L_law_370 : decode code 370 = .ok (.iaload, 1) := by decide +kernel
theorem d_L_law_371 : decode code 371 = .ok (.invokevirtual 59, 3) := by decide +kernel
theorem d_L_law_374 : decode code 374 = .ok (.if_icmp .eq 245, 3) := by decide +kernel
