theorem dL_law_0 : decode cL_law 0 = .ok (.new 7, 3) := by decide +kernel
theorem dL_law_3 : decode cL_law 3 = .ok (.dup, 1) := by decide +kernel
theorem dL_law_4 : decode cL_law 4 = .ok (.invokespecial 9, 3) := by decide +kernel
theorem dL_law_7 : decode cL_law 7 = .ok (.astore_n 1, 1) := by decide +kernel
theorem dL_law_8 : decode cL_law 8 = .ok (.new 10, 3) := by decide +kernel
theorem dL_law_11 : decode cL_law 11 = .ok (.dup, 1) := by decide +kernel
theorem dL_law_12 : decode cL_law 12 = .ok (.invokespecial 12, 3) := by decide +kernel
theorem dL_law_15 : decode cL_law 15 = .ok (.astore_n 2, 1) := by decide +kernel
theorem dL_law_16 : decode cL_law 16 = .ok (.iconst 0, 1) := by decide +kernel
theorem dL_law_17 : decode cL_law 17 = .ok (.istore_n 3, 1) := by decide +kernel
theorem dL_law_18 : decode cL_law 18 = .ok (.iload_n 3, 1) := by decide +kernel
theorem dL_law_19 : decode cL_law 19 = .ok (.aload_n 0, 1) := by decide +kernel
theorem dL_law_20 : decode cL_law 20 = .ok (.arraylength, 1) := by decide +kernel
theorem dL_law_21 : decode cL_law 21 = .ok (.iconst 5, 1) := by decide +kernel
theorem dL_law_22 : decode cL_law 22 = .ok (.isub, 1) := by decide +kernel
theorem dL_law_23 : decode cL_law 23 = .ok (.if_icmp .gt 690, 3) := by decide +kernel
theorem dL_law_26 : decode cL_law 26 = .ok (.aload_n 0, 1) := by decide +kernel
theorem dL_law_27 : decode cL_law 27 = .ok (.iload_n 3, 1) := by decide +kernel
theorem dL_law_28 : decode cL_law 28 = .ok (.iaload, 1) := by decide +kernel
theorem dL_law_29 : decode cL_law 29 = .ok (.bipush 31, 2) := by decide +kernel
theorem dL_law_31 : decode cL_law 31 = .ok (.iand, 1) := by decide +kernel
theorem dL_law_32 : decode cL_law 32 = .ok (.tableswitch 675 0 16 #[84, 127, 170, 213, 246, 279, 302, 355, 378, 411, 454, 497, 520, 553, 586, 619, 652], 84) := by decide +kernel
theorem dL_law_116 : decode cL_law 116 = .ok (.aload_n 1, 1) := by decide +kernel
theorem dL_law_117 : decode cL_law 117 = .ok (.aload_n 0, 1) := by decide +kernel
theorem dL_law_118 : decode cL_law 118 = .ok (.iload_n 3, 1) := by decide +kernel
theorem dL_law_119 : decode cL_law 119 = .ok (.iconst 1, 1) := by decide +kernel
theorem dL_law_120 : decode cL_law 120 = .ok (.iadd, 1) := by decide +kernel
theorem dL_law_121 : decode cL_law 121 = .ok (.iaload, 1) := by decide +kernel
theorem dL_law_122 : decode cL_law 122 = .ok (.aload_n 0, 1) := by decide +kernel
theorem dL_law_123 : decode cL_law 123 = .ok (.iload_n 3, 1) := by decide +kernel
theorem dL_law_124 : decode cL_law 124 = .ok (.iconst 2, 1) := by decide +kernel
theorem dL_law_125 : decode cL_law 125 = .ok (.iadd, 1) := by decide +kernel
theorem dL_law_126 : decode cL_law 126 = .ok (.iaload, 1) := by decide +kernel
theorem dL_law_127 : decode cL_law 127 = .ok (.aload_n 0, 1) := by decide +kernel
theorem dL_law_128 : decode cL_law 128 = .ok (.iload_n 3, 1) := by decide +kernel
theorem dL_law_129 : decode cL_law 129 = .ok (.iconst 3, 1) := by decide +kernel
theorem dL_law_130 : decode cL_law 130 = .ok (.iadd, 1) := by decide +kernel
theorem dL_law_131 : decode cL_law 131 = .ok (.iaload, 1) := by decide +kernel
theorem dL_law_132 : decode cL_law 132 = .ok (.invokevirtual 13, 3) := by decide +kernel
theorem dL_law_135 : decode cL_law 135 = .ok (.aload_n 2, 1) := by decide +kernel
theorem dL_law_136 : decode cL_law 136 = .ok (.aload_n 0, 1) := by decide +kernel
theorem dL_law_137 : decode cL_law 137 = .ok (.iload_n 3, 1) := by decide +kernel
theorem dL_law_138 : decode cL_law 138 = .ok (.iconst 1, 1) := by decide +kernel
theorem dL_law_139 : decode cL_law 139 = .ok (.iadd, 1) := by decide +kernel
theorem dL_law_140 : decode cL_law 140 = .ok (.iaload, 1) := by decide +kernel
theorem dL_law_141 : decode cL_law 141 = .ok (.aload_n 0, 1) := by decide +kernel
theorem dL_law_142 : decode cL_law 142 = .ok (.iload_n 3, 1) := by decide +kernel
theorem dL_law_143 : decode cL_law 143 = .ok (.iconst 2, 1) := by decide +kernel
theorem dL_law_144 : decode cL_law 144 = .ok (.iadd, 1) := by decide +kernel
theorem dL_law_145 : decode cL_law 145 = .ok (.iaload, 1) := by decide +kernel
theorem dL_law_146 : decode cL_law 146 = .ok (.aload_n 0, 1) := by decide +kernel
theorem dL_law_147 : decode cL_law 147 = .ok (.iload_n 3, 1) := by decide +kernel
theorem dL_law_148 : decode cL_law 148 = .ok (.iconst 3, 1) := by decide +kernel
theorem dL_law_149 : decode cL_law 149 = .ok (.iadd, 1) := by decide +kernel
theorem dL_law_150 : decode cL_law 150 = .ok (.iaload, 1) := by decide +kernel
theorem dL_law_151 : decode cL_law 151 = .ok (.invokevirtual 17, 3) := by decide +kernel
theorem dL_law_154 : decode cL_law 154 = .ok (.if_icmp .eq 553, 3) := by decide +kernel
theorem dL_law_157 : decode cL_law 157 = .ok (.iconst 0, 1) := by decide +kernel
theorem dL_law_158 : decode cL_law 158 = .ok (.ireturn, 1) := by decide +kernel
theorem dL_law_159 : decode cL_law 159 = .ok (.aload_n 1, 1) := by decide +kernel
theorem dL_law_160 : decode cL_law 160 = .ok (.aload_n 0, 1) := by decide +kernel
theorem dL_law_161 : decode cL_law 161 = .ok (.iload_n 3, 1) := by decide +kernel
theorem dL_law_162 : decode cL_law 162 = .ok (.iconst 1, 1) := by decide +kernel
theorem dL_law_163 : decode cL_law 163 = .ok (.iadd, 1) := by decide +kernel
theorem dL_law_164 : decode cL_law 164 = .ok (.iaload, 1) := by decide +kernel
theorem dL_law_165 : decode cL_law 165 = .ok (.aload_n 0, 1) := by decide +kernel
theorem dL_law_166 : decode cL_law 166 = .ok (.iload_n 3, 1) := by decide +kernel
theorem dL_law_167 : decode cL_law 167 = .ok (.iconst 2, 1) := by decide +kernel
theorem dL_law_168 : decode cL_law 168 = .ok (.iadd, 1) := by decide +kernel
theorem dL_law_169 : decode cL_law 169 = .ok (.iaload, 1) := by decide +kernel
theorem dL_law_170 : decode cL_law 170 = .ok (.aload_n 0, 1) := by decide +kernel
theorem dL_law_171 : decode cL_law 171 = .ok (.iload_n 3, 1) := by decide +kernel
theorem dL_law_172 : decode cL_law 172 = .ok (.iconst 3, 1) := by decide +kernel
theorem dL_law_173 : decode cL_law 173 = .ok (.iadd, 1) := by decide +kernel
theorem dL_law_174 : decode cL_law 174 = .ok (.iaload, 1) := by decide +kernel
theorem dL_law_175 : decode cL_law 175 = .ok (.invokevirtual 18, 3) := by decide +kernel
theorem dL_law_178 : decode cL_law 178 = .ok (.aload_n 2, 1) := by decide +kernel
theorem dL_law_179 : decode cL_law 179 = .ok (.aload_n 0, 1) := by decide +kernel
theorem dL_law_180 : decode cL_law 180 = .ok (.iload_n 3, 1) := by decide +kernel
theorem dL_law_181 : decode cL_law 181 = .ok (.iconst 1, 1) := by decide +kernel
theorem dL_law_182 : decode cL_law 182 = .ok (.iadd, 1) := by decide +kernel
theorem dL_law_183 : decode cL_law 183 = .ok (.iaload, 1) := by decide +kernel
theorem dL_law_184 : decode cL_law 184 = .ok (.aload_n 0, 1) := by decide +kernel
theorem dL_law_185 : decode cL_law 185 = .ok (.iload_n 3, 1) := by decide +kernel
theorem dL_law_186 : decode cL_law 186 = .ok (.iconst 2, 1) := by decide +kernel
theorem dL_law_187 : decode cL_law 187 = .ok (.iadd, 1) := by decide +kernel
theorem dL_law_188 : decode cL_law 188 = .ok (.iaload, 1) := by decide +kernel
theorem dL_law_189 : decode cL_law 189 = .ok (.aload_n 0, 1) := by decide +kernel
theorem dL_law_190 : decode cL_law 190 = .ok (.iload_n 3, 1) := by decide +kernel
theorem dL_law_191 : decode cL_law 191 = .ok (.iconst 3, 1) := by decide +kernel
theorem dL_law_192 : decode cL_law 192 = .ok (.iadd, 1) := by decide +kernel
theorem dL_law_193 : decode cL_law 193 = .ok (.iaload, 1) := by decide +kernel
theorem dL_law_194 : decode cL_law 194 = .ok (.invokevirtual 21, 3) := by decide +kernel
theorem dL_law_197 : decode cL_law 197 = .ok (.if_icmp .eq 510, 3) := by decide +kernel
theorem dL_law_200 : decode cL_law 200 = .ok (.iconst 0, 1) := by decide +kernel
theorem dL_law_201 : decode cL_law 201 = .ok (.ireturn, 1) := by decide +kernel
theorem dL_law_202 : decode cL_law 202 = .ok (.aload_n 1, 1) := by decide +kernel
theorem dL_law_203 : decode cL_law 203 = .ok (.aload_n 0, 1) := by decide +kernel
theorem dL_law_204 : decode cL_law 204 = .ok (.iload_n 3, 1) := by decide +kernel
theorem dL_law_205 : decode cL_law 205 = .ok (.iconst 1, 1) := by decide +kernel
theorem dL_law_206 : decode cL_law 206 = .ok (.iadd, 1) := by decide +kernel
theorem dL_law_207 : decode cL_law 207 = .ok (.iaload, 1) := by decide +kernel
theorem dL_law_208 : decode cL_law 208 = .ok (.aload_n 0, 1) := by decide +kernel
theorem dL_law_209 : decode cL_law 209 = .ok (.iload_n 3, 1) := by decide +kernel
theorem dL_law_210 : decode cL_law 210 = .ok (.iconst 2, 1) := by decide +kernel
theorem dL_law_211 : decode cL_law 211 = .ok (.iadd, 1) := by decide +kernel
theorem dL_law_212 : decode cL_law 212 = .ok (.iaload, 1) := by decide +kernel
theorem dL_law_213 : decode cL_law 213 = .ok (.aload_n 0, 1) := by decide +kernel
theorem dL_law_214 : decode cL_law 214 = .ok (.iload_n 3, 1) := by decide +kernel
theorem dL_law_215 : decode cL_law 215 = .ok (.iconst 3, 1) := by decide +kernel
theorem dL_law_216 : decode cL_law 216 = .ok (.iadd, 1) := by decide +kernel
theorem dL_law_217 : decode cL_law 217 = .ok (.iaload, 1) := by decide +kernel
theorem dL_law_218 : decode cL_law 218 = .ok (.invokevirtual 22, 3) := by decide +kernel
theorem dL_law_221 : decode cL_law 221 = .ok (.aload_n 2, 1) := by decide +kernel
theorem dL_law_222 : decode cL_law 222 = .ok (.aload_n 0, 1) := by decide +kernel
theorem dL_law_223 : decode cL_law 223 = .ok (.iload_n 3, 1) := by decide +kernel
theorem dL_law_224 : decode cL_law 224 = .ok (.iconst 1, 1) := by decide +kernel
theorem dL_law_225 : decode cL_law 225 = .ok (.iadd, 1) := by decide +kernel
theorem dL_law_226 : decode cL_law 226 = .ok (.iaload, 1) := by decide +kernel
theorem dL_law_227 : decode cL_law 227 = .ok (.aload_n 0, 1) := by decide +kernel
theorem dL_law_228 : decode cL_law 228 = .ok (.iload_n 3, 1) := by decide +kernel
theorem dL_law_229 : decode cL_law 229 = .ok (.iconst 2, 1) := by decide +kernel
theorem dL_law_230 : decode cL_law 230 = .ok (.iadd, 1) := by decide +kernel
theorem dL_law_231 : decode cL_law 231 = .ok (.iaload, 1) := by decide +kernel
theorem dL_law_232 : decode cL_law 232 = .ok (.aload_n 0, 1) := by decide +kernel
theorem dL_law_233 : decode cL_law 233 = .ok (.iload_n 3, 1) := by decide +kernel
theorem dL_law_234 : decode cL_law 234 = .ok (.iconst 3, 1) := by decide +kernel
theorem dL_law_235 : decode cL_law 235 = .ok (.iadd, 1) := by decide +kernel
theorem dL_law_236 : decode cL_law 236 = .ok (.iaload, 1) := by decide +kernel
theorem dL_law_237 : decode cL_law 237 = .ok (.invokevirtual 26, 3) := by decide +kernel
theorem dL_law_240 : decode cL_law 240 = .ok (.if_icmp .eq 467, 3) := by decide +kernel
theorem dL_law_243 : decode cL_law 243 = .ok (.iconst 0, 1) := by decide +kernel
theorem dL_law_244 : decode cL_law 244 = .ok (.ireturn, 1) := by decide +kernel
theorem dL_law_245 : decode cL_law 245 = .ok (.aload_n 1, 1) := by decide +kernel
theorem dL_law_246 : decode cL_law 246 = .ok (.aload_n 0, 1) := by decide +kernel
theorem dL_law_247 : decode cL_law 247 = .ok (.iload_n 3, 1) := by decide +kernel
theorem dL_law_248 : decode cL_law 248 = .ok (.iconst 1, 1) := by decide +kernel
theorem dL_law_249 : decode cL_law 249 = .ok (.iadd, 1) := by decide +kernel
theorem dL_law_250 : decode cL_law 250 = .ok (.iaload, 1) := by decide +kernel
theorem dL_law_251 : decode cL_law 251 = .ok (.aload_n 0, 1) := by decide +kernel
theorem dL_law_252 : decode cL_law 252 = .ok (.iload_n 3, 1) := by decide +kernel
theorem dL_law_253 : decode cL_law 253 = .ok (.iconst 2, 1) := by decide +kernel
theorem dL_law_254 : decode cL_law 254 = .ok (.iadd, 1) := by decide +kernel
theorem dL_law_255 : decode cL_law 255 = .ok (.iaload, 1) := by decide +kernel
theorem dL_law_256 : decode cL_law 256 = .ok (.invokevirtual 27, 3) := by decide +kernel
theorem dL_law_259 : decode cL_law 259 = .ok (.aload_n 2, 1) := by decide +kernel
theorem dL_law_260 : decode cL_law 260 = .ok (.aload_n 0, 1) := by decide +kernel
theorem dL_law_261 : decode cL_law 261 = .ok (.iload_n 3, 1) := by decide +kernel
theorem dL_law_262 : decode cL_law 262 = .ok (.iconst 1, 1) := by decide +kernel
theorem dL_law_263 : decode cL_law 263 = .ok (.iadd, 1) := by decide +kernel
theorem dL_law_264 : decode cL_law 264 = .ok (.iaload, 1) := by decide +kernel
theorem dL_law_265 : decode cL_law 265 = .ok (.aload_n 0, 1) := by decide +kernel
theorem dL_law_266 : decode cL_law 266 = .ok (.iload_n 3, 1) := by decide +kernel
theorem dL_law_267 : decode cL_law 267 = .ok (.iconst 2, 1) := by decide +kernel
theorem dL_law_268 : decode cL_law 268 = .ok (.iadd, 1) := by decide +kernel
theorem dL_law_269 : decode cL_law 269 = .ok (.iaload, 1) := by decide +kernel
theorem dL_law_270 : decode cL_law 270 = .ok (.invokevirtual 31, 3) := by decide +kernel
theorem dL_law_273 : decode cL_law 273 = .ok (.if_icmp .eq 434, 3) := by decide +kernel
theorem dL_law_276 : decode cL_law 276 = .ok (.iconst 0, 1) := by decide +kernel
theorem dL_law_277 : decode cL_law 277 = .ok (.ireturn, 1) := by decide +kernel
theorem dL_law_278 : decode cL_law 278 = .ok (.aload_n 1, 1) := by decide +kernel
theorem dL_law_279 : decode cL_law 279 = .ok (.aload_n 0, 1) := by decide +kernel
theorem dL_law_280 : decode cL_law 280 = .ok (.iload_n 3, 1) := by decide +kernel
theorem dL_law_281 : decode cL_law 281 = .ok (.iconst 1, 1) := by decide +kernel
theorem dL_law_282 : decode cL_law 282 = .ok (.iadd, 1) := by decide +kernel
theorem dL_law_283 : decode cL_law 283 = .ok (.iaload, 1) := by decide +kernel
theorem dL_law_284 : decode cL_law 284 = .ok (.aload_n 0, 1) := by decide +kernel
theorem dL_law_285 : decode cL_law 285 = .ok (.iload_n 3, 1) := by decide +kernel
theorem dL_law_286 : decode cL_law 286 = .ok (.iconst 2, 1) := by decide +kernel
theorem dL_law_287 : decode cL_law 287 = .ok (.iadd, 1) := by decide +kernel
theorem dL_law_288 : decode cL_law 288 = .ok (.iaload, 1) := by decide +kernel
theorem dL_law_289 : decode cL_law 289 = .ok (.invokevirtual 32, 3) := by decide +kernel
theorem dL_law_292 : decode cL_law 292 = .ok (.aload_n 2, 1) := by decide +kernel
theorem dL_law_293 : decode cL_law 293 = .ok (.aload_n 0, 1) := by decide +kernel
theorem dL_law_294 : decode cL_law 294 = .ok (.iload_n 3, 1) := by decide +kernel
theorem dL_law_295 : decode cL_law 295 = .ok (.iconst 1, 1) := by decide +kernel
theorem dL_law_296 : decode cL_law 296 = .ok (.iadd, 1) := by decide +kernel
theorem dL_law_297 : decode cL_law 297 = .ok (.iaload, 1) := by decide +kernel
theorem dL_law_298 : decode cL_law 298 = .ok (.aload_n 0, 1) := by decide +kernel
theorem dL_law_299 : decode cL_law 299 = .ok (.iload_n 3, 1) := by decide +kernel
theorem dL_law_300 : decode cL_law 300 = .ok (.iconst 2, 1) := by decide +kernel
theorem dL_law_301 : decode cL_law 301 = .ok (.iadd, 1) := by decide +kernel
theorem dL_law_302 : decode cL_law 302 = .ok (.iaload, 1) := by decide +kernel
theorem dL_law_303 : decode cL_law 303 = .ok (.invokevirtual 36, 3) := by decide +kernel
theorem dL_law_306 : decode cL_law 306 = .ok (.if_icmp .eq 401, 3) := by decide +kernel
theorem dL_law_309 : decode cL_law 309 = .ok (.iconst 0, 1) := by decide +kernel
theorem dL_law_310 : decode cL_law 310 = .ok (.ireturn, 1) := by decide +kernel
theorem dL_law_311 : decode cL_law 311 = .ok (.aload_n 1, 1) := by decide +kernel
theorem dL_law_312 : decode cL_law 312 = .ok (.aload_n 0, 1) := by decide +kernel
theorem dL_law_313 : decode cL_law 313 = .ok (.iload_n 3, 1) := by decide +kernel
theorem dL_law_314 : decode cL_law 314 = .ok (.iconst 1, 1) := by decide +kernel
theorem dL_law_315 : decode cL_law 315 = .ok (.iadd, 1) := by decide +kernel
theorem dL_law_316 : decode cL_law 316 = .ok (.iaload, 1) := by decide +kernel
theorem dL_law_317 : decode cL_law 317 = .ok (.invokevirtual 37, 3) := by decide +kernel
theorem dL_law_320 : decode cL_law 320 = .ok (.aload_n 2, 1) := by decide +kernel
theorem dL_law_321 : decode cL_law 321 = .ok (.aload_n 0, 1) := by decide +kernel
theorem dL_law_322 : decode cL_law 322 = .ok (.iload_n 3, 1) := by decide +kernel
theorem dL_law_323 : decode cL_law 323 = .ok (.iconst 1, 1) := by decide +kernel
theorem dL_law_324 : decode cL_law 324 = .ok (.iadd, 1) := by decide +kernel
theorem dL_law_325 : decode cL_law 325 = .ok (.iaload, 1) := by decide +kernel
theorem dL_law_326 : decode cL_law 326 = .ok (.invokevirtual 41, 3) := by decide +kernel
theorem dL_law_329 : decode cL_law 329 = .ok (.if_icmp .eq 378, 3) := by decide +kernel
theorem dL_law_332 : decode cL_law 332 = .ok (.iconst 0, 1) := by decide +kernel
theorem dL_law_333 : decode cL_law 333 = .ok (.ireturn, 1) := by decide +kernel
theorem dL_law_334 : decode cL_law 334 = .ok (.aload_n 1, 1) := by decide +kernel
theorem dL_law_335 : decode cL_law 335 = .ok (.aload_n 0, 1) := by decide +kernel
theorem dL_law_336 : decode cL_law 336 = .ok (.iload_n 3, 1) := by decide +kernel
theorem dL_law_337 : decode cL_law 337 = .ok (.iconst 1, 1) := by decide +kernel
theorem dL_law_338 : decode cL_law 338 = .ok (.iadd, 1) := by decide +kernel
theorem dL_law_339 : decode cL_law 339 = .ok (.iaload, 1) := by decide +kernel
theorem dL_law_340 : decode cL_law 340 = .ok (.aload_n 0, 1) := by decide +kernel
theorem dL_law_341 : decode cL_law 341 = .ok (.iload_n 3, 1) := by decide +kernel
theorem dL_law_342 : decode cL_law 342 = .ok (.iconst 2, 1) := by decide +kernel
theorem dL_law_343 : decode cL_law 343 = .ok (.iadd, 1) := by decide +kernel
theorem dL_law_344 : decode cL_law 344 = .ok (.iaload, 1) := by decide +kernel
theorem dL_law_345 : decode cL_law 345 = .ok (.aload_n 0, 1) := by decide +kernel
theorem dL_law_346 : decode cL_law 346 = .ok (.iload_n 3, 1) := by decide +kernel
theorem dL_law_347 : decode cL_law 347 = .ok (.iconst 3, 1) := by decide +kernel
theorem dL_law_348 : decode cL_law 348 = .ok (.iadd, 1) := by decide +kernel
theorem dL_law_349 : decode cL_law 349 = .ok (.iaload, 1) := by decide +kernel
theorem dL_law_350 : decode cL_law 350 = .ok (.aload_n 0, 1) := by decide +kernel
theorem dL_law_351 : decode cL_law 351 = .ok (.iload_n 3, 1) := by decide +kernel
theorem dL_law_352 : decode cL_law 352 = .ok (.iconst 4, 1) := by decide +kernel
theorem dL_law_353 : decode cL_law 353 = .ok (.iadd, 1) := by decide +kernel
theorem dL_law_354 : decode cL_law 354 = .ok (.iaload, 1) := by decide +kernel
theorem dL_law_355 : decode cL_law 355 = .ok (.invokevirtual 42, 3) := by decide +kernel
theorem dL_law_358 : decode cL_law 358 = .ok (.aload_n 2, 1) := by decide +kernel
theorem dL_law_359 : decode cL_law 359 = .ok (.aload_n 0, 1) := by decide +kernel
theorem dL_law_360 : decode cL_law 360 = .ok (.iload_n 3, 1) := by decide +kernel
theorem dL_law_361 : decode cL_law 361 = .ok (.iconst 1, 1) := by decide +kernel
theorem dL_law_362 : decode cL_law 362 = .ok (.iadd, 1) := by decide +kernel
theorem dL_law_363 : decode cL_law 363 = .ok (.iaload, 1) := by decide +kernel
theorem dL_law_364 : decode cL_law 364 = .ok (.aload_n 0, 1) := by decide +kernel
theorem dL_law_365 : decode cL_law 365 = .ok (.iload_n 3, 1) := by decide +kernel
theorem dL_law_366 : decode cL_law 366 = .ok (.iconst 2, 1) := by decide +kernel
theorem dL_law_367 : decode cL_law 367 = .ok (.iadd, 1) := by decide +kernel
theorem dL_law_368 : decode cL_law 368 = .ok (.iaload, 1) := by decide +kernel
theorem dL_law_369 : decode cL_law 369 = .ok (.aload_n 0, 1) := by decide +kernel
theorem dL_law_370 : decode cL_law 370 = .ok (.iload_n 3, 1) := by decide +kernel
theorem dL_law_371 : decode cL_law 371 = .ok (.iconst 3, 1) := by decide +kernel
theorem dL_law_372 : decode cL_law 372 = .ok (.iadd, 1) := by decide +kernel
theorem dL_law_373 : decode cL_law 373 = .ok (.iaload, 1) := by decide +kernel
theorem dL_law_374 : decode cL_law 374 = .ok (.aload_n 0, 1) := by decide +kernel
theorem dL_law_375 : decode cL_law 375 = .ok (.iload_n 3, 1) := by decide +kernel
theorem dL_law_376 : decode cL_law 376 = .ok (.iconst 4, 1) := by decide +kernel
theorem dL_law_377 : decode cL_law 377 = .ok (.iadd, 1) := by decide +kernel
theorem dL_law_378 : decode cL_law 378 = .ok (.iaload, 1) := by decide +kernel
theorem dL_law_379 : decode cL_law 379 = .ok (.invokevirtual 46, 3) := by decide +kernel
theorem dL_law_382 : decode cL_law 382 = .ok (.if_icmp .eq 325, 3) := by decide +kernel
theorem dL_law_385 : decode cL_law 385 = .ok (.iconst 0, 1) := by decide +kernel
theorem dL_law_386 : decode cL_law 386 = .ok (.ireturn, 1) := by decide +kernel
theorem dL_law_387 : decode cL_law 387 = .ok (.aload_n 1, 1) := by decide +kernel
theorem dL_law_388 : decode cL_law 388 = .ok (.aload_n 0, 1) := by decide +kernel
theorem dL_law_389 : decode cL_law 389 = .ok (.iload_n 3, 1) := by decide +kernel
theorem dL_law_390 : decode cL_law 390 = .ok (.iconst 1, 1) := by decide +kernel
theorem dL_law_391 : decode cL_law 391 = .ok (.iadd, 1) := by decide +kernel
theorem dL_law_392 : decode cL_law 392 = .ok (.iaload, 1) := by decide +kernel
theorem dL_law_393 : decode cL_law 393 = .ok (.invokevirtual 47, 3) := by decide +kernel
theorem dL_law_396 : decode cL_law 396 = .ok (.aload_n 2, 1) := by decide +kernel
theorem dL_law_397 : decode cL_law 397 = .ok (.aload_n 0, 1) := by decide +kernel
theorem dL_law_398 : decode cL_law 398 = .ok (.iload_n 3, 1) := by decide +kernel
theorem dL_law_399 : decode cL_law 399 = .ok (.iconst 1, 1) := by decide +kernel
theorem dL_law_400 : decode cL_law 400 = .ok (.iadd, 1) := by decide +kernel
theorem dL_law_401 : decode cL_law 401 = .ok (.iaload, 1) := by decide +kernel
theorem dL_law_402 : decode cL_law 402 = .ok (.invokevirtual 50, 3) := by decide +kernel
theorem dL_law_405 : decode cL_law 405 = .ok (.if_icmp .eq 302, 3) := by decide +kernel
theorem dL_law_408 : decode cL_law 408 = .ok (.iconst 0, 1) := by decide +kernel
theorem dL_law_409 : decode cL_law 409 = .ok (.ireturn, 1) := by decide +kernel
theorem dL_law_410 : decode cL_law 410 = .ok (.aload_n 1, 1) := by decide +kernel
theorem dL_law_411 : decode cL_law 411 = .ok (.aload_n 0, 1) := by decide +kernel
theorem dL_law_412 : decode cL_law 412 = .ok (.iload_n 3, 1) := by decide +kernel
theorem dL_law_413 : decode cL_law 413 = .ok (.iconst 1, 1) := by decide +kernel
theorem dL_law_414 : decode cL_law 414 = .ok (.iadd, 1) := by decide +kernel
theorem dL_law_415 : decode cL_law 415 = .ok (.iaload, 1) := by decide +kernel
theorem dL_law_416 : decode cL_law 416 = .ok (.aload_n 0, 1) := by decide +kernel
theorem dL_law_417 : decode cL_law 417 = .ok (.iload_n 3, 1) := by decide +kernel
theorem dL_law_418 : decode cL_law 418 = .ok (.iconst 2, 1) := by decide +kernel
theorem dL_law_419 : decode cL_law 419 = .ok (.iadd, 1) := by decide +kernel
theorem dL_law_420 : decode cL_law 420 = .ok (.iaload, 1) := by decide +kernel
theorem dL_law_421 : decode cL_law 421 = .ok (.invokevirtual 51, 3) := by decide +kernel
theorem dL_law_424 : decode cL_law 424 = .ok (.aload_n 2, 1) := by decide +kernel
theorem dL_law_425 : decode cL_law 425 = .ok (.aload_n 0, 1) := by decide +kernel
theorem dL_law_426 : decode cL_law 426 = .ok (.iload_n 3, 1) := by decide +kernel
theorem dL_law_427 : decode cL_law 427 = .ok (.iconst 1, 1) := by decide +kernel
theorem dL_law_428 : decode cL_law 428 = .ok (.iadd, 1) := by decide +kernel
theorem dL_law_429 : decode cL_law 429 = .ok (.iaload, 1) := by decide +kernel
theorem dL_law_430 : decode cL_law 430 = .ok (.aload_n 0, 1) := by decide +kernel
theorem dL_law_431 : decode cL_law 431 = .ok (.iload_n 3, 1) := by decide +kernel
theorem dL_law_432 : decode cL_law 432 = .ok (.iconst 2, 1) := by decide +kernel
theorem dL_law_433 : decode cL_law 433 = .ok (.iadd, 1) := by decide +kernel
theorem dL_law_434 : decode cL_law 434 = .ok (.iaload, 1) := by decide +kernel
theorem dL_law_435 : decode cL_law 435 = .ok (.invokevirtual 54, 3) := by decide +kernel
theorem dL_law_438 : decode cL_law 438 = .ok (.if_icmp .eq 269, 3) := by decide +kernel
theorem dL_law_441 : decode cL_law 441 = .ok (.iconst 0, 1) := by decide +kernel
theorem dL_law_442 : decode cL_law 442 = .ok (.ireturn, 1) := by decide +kernel
theorem dL_law_443 : decode cL_law 443 = .ok (.aload_n 1, 1) := by decide +kernel
theorem dL_law_444 : decode cL_law 444 = .ok (.aload_n 0, 1) := by decide +kernel
theorem dL_law_445 : decode cL_law 445 = .ok (.iload_n 3, 1) := by decide +kernel
theorem dL_law_446 : decode cL_law 446 = .ok (.iconst 1, 1) := by decide +kernel
theorem dL_law_447 : decode cL_law 447 = .ok (.iadd, 1) := by decide +kernel
theorem dL_law_448 : decode cL_law 448 = .ok (.iaload, 1) := by decide +kernel
theorem dL_law_449 : decode cL_law 449 = .ok (.aload_n 0, 1) := by decide +kernel
theorem dL_law_450 : decode cL_law 450 = .ok (.iload_n 3, 1) := by decide +kernel
theorem dL_law_451 : decode cL_law 451 = .ok (.iconst 2, 1) := by decide +kernel
theorem dL_law_452 : decode cL_law 452 = .ok (.iadd, 1) := by decide +kernel
theorem dL_law_453 : decode cL_law 453 = .ok (.iaload, 1) := by decide +kernel
theorem dL_law_454 : decode cL_law 454 = .ok (.aload_n 0, 1) := by decide +kernel
theorem dL_law_455 : decode cL_law 455 = .ok (.iload_n 3, 1) := by decide +kernel
theorem dL_law_456 : decode cL_law 456 = .ok (.iconst 3, 1) := by decide +kernel
theorem dL_law_457 : decode cL_law 457 = .ok (.iadd, 1) := by decide +kernel
theorem dL_law_458 : decode cL_law 458 = .ok (.iaload, 1) := by decide +kernel
theorem dL_law_459 : decode cL_law 459 = .ok (.invokevirtual 55, 3) := by decide +kernel
theorem dL_law_462 : decode cL_law 462 = .ok (.aload_n 2, 1) := by decide +kernel
theorem dL_law_463 : decode cL_law 463 = .ok (.aload_n 0, 1) := by decide +kernel
theorem dL_law_464 : decode cL_law 464 = .ok (.iload_n 3, 1) := by decide +kernel
theorem dL_law_465 : decode cL_law 465 = .ok (.iconst 1, 1) := by decide +kernel
theorem dL_law_466 : decode cL_law 466 = .ok (.iadd, 1) := by decide +kernel
theorem dL_law_467 : decode cL_law 467 = .ok (.iaload, 1) := by decide +kernel
theorem dL_law_468 : decode cL_law 468 = .ok (.aload_n 0, 1) := by decide +kernel
theorem dL_law_469 : decode cL_law 469 = .ok (.iload_n 3, 1) := by decide +kernel
theorem dL_law_470 : decode cL_law 470 = .ok (.iconst 2, 1) := by decide +kernel
theorem dL_law_471 : decode cL_law 471 = .ok (.iadd, 1) := by decide +kernel
theorem dL_law_472 : decode cL_law 472 = .ok (.iaload, 1) := by decide +kernel
theorem dL_law_473 : decode cL_law 473 = .ok (.aload_n 0, 1) := by decide +kernel
theorem dL_law_474 : decode cL_law 474 = .ok (.iload_n 3, 1) := by decide +kernel
theorem dL_law_475 : decode cL_law 475 = .ok (.iconst 3, 1) := by decide +kernel
theorem dL_law_476 : decode cL_law 476 = .ok (.iadd, 1) := by decide +kernel
theorem dL_law_477 : decode cL_law 477 = .ok (.iaload, 1) := by decide +kernel
theorem dL_law_478 : decode cL_law 478 = .ok (.invokevirtual 58, 3) := by decide +kernel
theorem dL_law_481 : decode cL_law 481 = .ok (.if_icmp .eq 226, 3) := by decide +kernel
theorem dL_law_484 : decode cL_law 484 = .ok (.iconst 0, 1) := by decide +kernel
theorem dL_law_485 : decode cL_law 485 = .ok (.ireturn, 1) := by decide +kernel
theorem dL_law_486 : decode cL_law 486 = .ok (.aload_n 1, 1) := by decide +kernel
theorem dL_law_487 : decode cL_law 487 = .ok (.aload_n 0, 1) := by decide +kernel
theorem dL_law_488 : decode cL_law 488 = .ok (.iload_n 3, 1) := by decide +kernel
theorem dL_law_489 : decode cL_law 489 = .ok (.iconst 1, 1) := by decide +kernel
theorem dL_law_490 : decode cL_law 490 = .ok (.iadd, 1) := by decide +kernel
theorem dL_law_491 : decode cL_law 491 = .ok (.iaload, 1) := by decide +kernel
theorem dL_law_492 : decode cL_law 492 = .ok (.aload_n 0, 1) := by decide +kernel
theorem dL_law_493 : decode cL_law 493 = .ok (.iload_n 3, 1) := by decide +kernel
theorem dL_law_494 : decode cL_law 494 = .ok (.iconst 2, 1) := by decide +kernel
theorem dL_law_495 : decode cL_law 495 = .ok (.iadd, 1) := by decide +kernel
theorem dL_law_496 : decode cL_law 496 = .ok (.iaload, 1) := by decide +kernel
theorem dL_law_497 : decode cL_law 497 = .ok (.aload_n 0, 1) := by decide +kernel
theorem dL_law_498 : decode cL_law 498 = .ok (.iload_n 3, 1) := by decide +kernel
theorem dL_law_499 : decode cL_law 499 = .ok (.iconst 3, 1) := by decide +kernel
theorem dL_law_500 : decode cL_law 500 = .ok (.iadd, 1) := by decide +kernel
theorem dL_law_501 : decode cL_law 501 = .ok (.iaload, 1) := by decide +kernel
theorem dL_law_502 : decode cL_law 502 = .ok (.invokevirtual 59, 3) := by decide +kernel
theorem dL_law_505 : decode cL_law 505 = .ok (.aload_n 2, 1) := by decide +kernel
theorem dL_law_506 : decode cL_law 506 = .ok (.aload_n 0, 1) := by decide +kernel
theorem dL_law_507 : decode cL_law 507 = .ok (.iload_n 3, 1) := by decide +kernel
theorem dL_law_508 : decode cL_law 508 = .ok (.iconst 1, 1) := by decide +kernel
theorem dL_law_509 : decode cL_law 509 = .ok (.iadd, 1) := by decide +kernel
theorem dL_law_510 : decode cL_law 510 = .ok (.iaload, 1) := by decide +kernel
theorem dL_law_511 : decode cL_law 511 = .ok (.aload_n 0, 1) := by decide +kernel
theorem dL_law_512 : decode cL_law 512 = .ok (.iload_n 3, 1) := by decide +kernel
theorem dL_law_513 : decode cL_law 513 = .ok (.iconst 2, 1) := by decide +kernel
theorem dL_law_514 : decode cL_law 514 = .ok (.iadd, 1) := by decide +kernel
theorem dL_law_515 : decode cL_law 515 = .ok (.iaload, 1) := by decide +kernel
theorem dL_law_516 : decode cL_law 516 = .ok (.aload_n 0, 1) := by decide +kernel
theorem dL_law_517 : decode cL_law 517 = .ok (.iload_n 3, 1) := by decide +kernel
theorem dL_law_518 : decode cL_law 518 = .ok (.iconst 3, 1) := by decide +kernel
theorem dL_law_519 : decode cL_law 519 = .ok (.iadd, 1) := by decide +kernel
theorem dL_law_520 : decode cL_law 520 = .ok (.iaload, 1) := by decide +kernel
theorem dL_law_521 : decode cL_law 521 = .ok (.invokevirtual 62, 3) := by decide +kernel
theorem dL_law_524 : decode cL_law 524 = .ok (.if_icmp .eq 183, 3) := by decide +kernel
theorem dL_law_527 : decode cL_law 527 = .ok (.iconst 0, 1) := by decide +kernel
theorem dL_law_528 : decode cL_law 528 = .ok (.ireturn, 1) := by decide +kernel
theorem dL_law_529 : decode cL_law 529 = .ok (.aload_n 1, 1) := by decide +kernel
theorem dL_law_530 : decode cL_law 530 = .ok (.aload_n 0, 1) := by decide +kernel
theorem dL_law_531 : decode cL_law 531 = .ok (.iload_n 3, 1) := by decide +kernel
theorem dL_law_532 : decode cL_law 532 = .ok (.iconst 1, 1) := by decide +kernel
theorem dL_law_533 : decode cL_law 533 = .ok (.iadd, 1) := by decide +kernel
theorem dL_law_534 : decode cL_law 534 = .ok (.iaload, 1) := by decide +kernel
theorem dL_law_535 : decode cL_law 535 = .ok (.invokevirtual 63, 3) := by decide +kernel
theorem dL_law_538 : decode cL_law 538 = .ok (.aload_n 2, 1) := by decide +kernel
theorem dL_law_539 : decode cL_law 539 = .ok (.aload_n 0, 1) := by decide +kernel
theorem dL_law_540 : decode cL_law 540 = .ok (.iload_n 3, 1) := by decide +kernel
theorem dL_law_541 : decode cL_law 541 = .ok (.iconst 1, 1) := by decide +kernel
theorem dL_law_542 : decode cL_law 542 = .ok (.iadd, 1) := by decide +kernel
theorem dL_law_543 : decode cL_law 543 = .ok (.iaload, 1) := by decide +kernel
theorem dL_law_544 : decode cL_law 544 = .ok (.invokevirtual 66, 3) := by decide +kernel
theorem dL_law_547 : decode cL_law 547 = .ok (.if_icmp .eq 160, 3) := by decide +kernel
theorem dL_law_550 : decode cL_law 550 = .ok (.iconst 0, 1) := by decide +kernel
theorem dL_law_551 : decode cL_law 551 = .ok (.ireturn, 1) := by decide +kernel
theorem dL_law_552 : decode cL_law 552 = .ok (.aload_n 1, 1) := by decide +kernel
theorem dL_law_553 : decode cL_law 553 = .ok (.aload_n 0, 1) := by decide +kernel
theorem dL_law_554 : decode cL_law 554 = .ok (.iload_n 3, 1) := by decide +kernel
theorem dL_law_555 : decode cL_law 555 = .ok (.iconst 1, 1) := by decide +kernel
theorem dL_law_556 : decode cL_law 556 = .ok (.iadd, 1) := by decide +kernel
theorem dL_law_557 : decode cL_law 557 = .ok (.iaload, 1) := by decide +kernel
theorem dL_law_558 : decode cL_law 558 = .ok (.aload_n 0, 1) := by decide +kernel
theorem dL_law_559 : decode cL_law 559 = .ok (.iload_n 3, 1) := by decide +kernel
theorem dL_law_560 : decode cL_law 560 = .ok (.iconst 2, 1) := by decide +kernel
theorem dL_law_561 : decode cL_law 561 = .ok (.iadd, 1) := by decide +kernel
theorem dL_law_562 : decode cL_law 562 = .ok (.iaload, 1) := by decide +kernel
theorem dL_law_563 : decode cL_law 563 = .ok (.invokevirtual 67, 3) := by decide +kernel
theorem dL_law_566 : decode cL_law 566 = .ok (.aload_n 2, 1) := by decide +kernel
theorem dL_law_567 : decode cL_law 567 = .ok (.aload_n 0, 1) := by decide +kernel
theorem dL_law_568 : decode cL_law 568 = .ok (.iload_n 3, 1) := by decide +kernel
theorem dL_law_569 : decode cL_law 569 = .ok (.iconst 1, 1) := by decide +kernel
theorem dL_law_570 : decode cL_law 570 = .ok (.iadd, 1) := by decide +kernel
theorem dL_law_571 : decode cL_law 571 = .ok (.iaload, 1) := by decide +kernel
theorem dL_law_572 : decode cL_law 572 = .ok (.aload_n 0, 1) := by decide +kernel
theorem dL_law_573 : decode cL_law 573 = .ok (.iload_n 3, 1) := by decide +kernel
theorem dL_law_574 : decode cL_law 574 = .ok (.iconst 2, 1) := by decide +kernel
theorem dL_law_575 : decode cL_law 575 = .ok (.iadd, 1) := by decide +kernel
theorem dL_law_576 : decode cL_law 576 = .ok (.iaload, 1) := by decide +kernel
theorem dL_law_577 : decode cL_law 577 = .ok (.invokevirtual 70, 3) := by decide +kernel
theorem dL_law_580 : decode cL_law 580 = .ok (.if_icmp .eq 127, 3) := by decide +kernel
theorem dL_law_583 : decode cL_law 583 = .ok (.iconst 0, 1) := by decide +kernel
theorem dL_law_584 : decode cL_law 584 = .ok (.ireturn, 1) := by decide +kernel
theorem dL_law_585 : decode cL_law 585 = .ok (.aload_n 1, 1) := by decide +kernel
theorem dL_law_586 : decode cL_law 586 = .ok (.aload_n 0, 1) := by decide +kernel
theorem dL_law_587 : decode cL_law 587 = .ok (.iload_n 3, 1) := by decide +kernel
theorem dL_law_588 : decode cL_law 588 = .ok (.iconst 1, 1) := by decide +kernel
theorem dL_law_589 : decode cL_law 589 = .ok (.iadd, 1) := by decide +kernel
theorem dL_law_590 : decode cL_law 590 = .ok (.iaload, 1) := by decide +kernel
theorem dL_law_591 : decode cL_law 591 = .ok (.aload_n 0, 1) := by decide +kernel
theorem dL_law_592 : decode cL_law 592 = .ok (.iload_n 3, 1) := by decide +kernel
theorem dL_law_593 : decode cL_law 593 = .ok (.iconst 2, 1) := by decide +kernel
theorem dL_law_594 : decode cL_law 594 = .ok (.iadd, 1) := by decide +kernel
theorem dL_law_595 : decode cL_law 595 = .ok (.iaload, 1) := by decide +kernel
theorem dL_law_596 : decode cL_law 596 = .ok (.invokevirtual 71, 3) := by decide +kernel
theorem dL_law_599 : decode cL_law 599 = .ok (.aload_n 2, 1) := by decide +kernel
theorem dL_law_600 : decode cL_law 600 = .ok (.aload_n 0, 1) := by decide +kernel
theorem dL_law_601 : decode cL_law 601 = .ok (.iload_n 3, 1) := by decide +kernel
theorem dL_law_602 : decode cL_law 602 = .ok (.iconst 1, 1) := by decide +kernel
theorem dL_law_603 : decode cL_law 603 = .ok (.iadd, 1) := by decide +kernel
theorem dL_law_604 : decode cL_law 604 = .ok (.iaload, 1) := by decide +kernel
theorem dL_law_605 : decode cL_law 605 = .ok (.aload_n 0, 1) := by decide +kernel
theorem dL_law_606 : decode cL_law 606 = .ok (.iload_n 3, 1) := by decide +kernel
theorem dL_law_607 : decode cL_law 607 = .ok (.iconst 2, 1) := by decide +kernel
theorem dL_law_608 : decode cL_law 608 = .ok (.iadd, 1) := by decide +kernel
theorem dL_law_609 : decode cL_law 609 = .ok (.iaload, 1) := by decide +kernel
theorem dL_law_610 : decode cL_law 610 = .ok (.invokevirtual 74, 3) := by decide +kernel
theorem dL_law_613 : decode cL_law 613 = .ok (.if_icmp .eq 94, 3) := by decide +kernel
theorem dL_law_616 : decode cL_law 616 = .ok (.iconst 0, 1) := by decide +kernel
theorem dL_law_617 : decode cL_law 617 = .ok (.ireturn, 1) := by decide +kernel
theorem dL_law_618 : decode cL_law 618 = .ok (.aload_n 1, 1) := by decide +kernel
theorem dL_law_619 : decode cL_law 619 = .ok (.aload_n 0, 1) := by decide +kernel
theorem dL_law_620 : decode cL_law 620 = .ok (.iload_n 3, 1) := by decide +kernel
theorem dL_law_621 : decode cL_law 621 = .ok (.iconst 1, 1) := by decide +kernel
theorem dL_law_622 : decode cL_law 622 = .ok (.iadd, 1) := by decide +kernel
theorem dL_law_623 : decode cL_law 623 = .ok (.iaload, 1) := by decide +kernel
theorem dL_law_624 : decode cL_law 624 = .ok (.aload_n 0, 1) := by decide +kernel
theorem dL_law_625 : decode cL_law 625 = .ok (.iload_n 3, 1) := by decide +kernel
theorem dL_law_626 : decode cL_law 626 = .ok (.iconst 2, 1) := by decide +kernel
theorem dL_law_627 : decode cL_law 627 = .ok (.iadd, 1) := by decide +kernel
theorem dL_law_628 : decode cL_law 628 = .ok (.iaload, 1) := by decide +kernel
theorem dL_law_629 : decode cL_law 629 = .ok (.invokevirtual 75, 3) := by decide +kernel
theorem dL_law_632 : decode cL_law 632 = .ok (.aload_n 2, 1) := by decide +kernel
theorem dL_law_633 : decode cL_law 633 = .ok (.aload_n 0, 1) := by decide +kernel
theorem dL_law_634 : decode cL_law 634 = .ok (.iload_n 3, 1) := by decide +kernel
theorem dL_law_635 : decode cL_law 635 = .ok (.iconst 1, 1) := by decide +kernel
theorem dL_law_636 : decode cL_law 636 = .ok (.iadd, 1) := by decide +kernel
theorem dL_law_637 : decode cL_law 637 = .ok (.iaload, 1) := by decide +kernel
theorem dL_law_638 : decode cL_law 638 = .ok (.aload_n 0, 1) := by decide +kernel
theorem dL_law_639 : decode cL_law 639 = .ok (.iload_n 3, 1) := by decide +kernel
theorem dL_law_640 : decode cL_law 640 = .ok (.iconst 2, 1) := by decide +kernel
theorem dL_law_641 : decode cL_law 641 = .ok (.iadd, 1) := by decide +kernel
theorem dL_law_642 : decode cL_law 642 = .ok (.iaload, 1) := by decide +kernel
theorem dL_law_643 : decode cL_law 643 = .ok (.invokevirtual 78, 3) := by decide +kernel
theorem dL_law_646 : decode cL_law 646 = .ok (.if_icmp .eq 61, 3) := by decide +kernel
theorem dL_law_649 : decode cL_law 649 = .ok (.iconst 0, 1) := by decide +kernel
theorem dL_law_650 : decode cL_law 650 = .ok (.ireturn, 1) := by decide +kernel
theorem dL_law_651 : decode cL_law 651 = .ok (.aload_n 1, 1) := by decide +kernel
theorem dL_law_652 : decode cL_law 652 = .ok (.aload_n 0, 1) := by decide +kernel
theorem dL_law_653 : decode cL_law 653 = .ok (.iload_n 3, 1) := by decide +kernel
theorem dL_law_654 : decode cL_law 654 = .ok (.iconst 1, 1) := by decide +kernel
theorem dL_law_655 : decode cL_law 655 = .ok (.iadd, 1) := by decide +kernel
theorem dL_law_656 : decode cL_law 656 = .ok (.iaload, 1) := by decide +kernel
theorem dL_law_657 : decode cL_law 657 = .ok (.aload_n 0, 1) := by decide +kernel
theorem dL_law_658 : decode cL_law 658 = .ok (.iload_n 3, 1) := by decide +kernel
theorem dL_law_659 : decode cL_law 659 = .ok (.iconst 2, 1) := by decide +kernel
theorem dL_law_660 : decode cL_law 660 = .ok (.iadd, 1) := by decide +kernel
theorem dL_law_661 : decode cL_law 661 = .ok (.iaload, 1) := by decide +kernel
theorem dL_law_662 : decode cL_law 662 = .ok (.invokevirtual 79, 3) := by decide +kernel
theorem dL_law_665 : decode cL_law 665 = .ok (.aload_n 2, 1) := by decide +kernel
theorem dL_law_666 : decode cL_law 666 = .ok (.aload_n 0, 1) := by decide +kernel
theorem dL_law_667 : decode cL_law 667 = .ok (.iload_n 3, 1) := by decide +kernel
theorem dL_law_668 : decode cL_law 668 = .ok (.iconst 1, 1) := by decide +kernel
theorem dL_law_669 : decode cL_law 669 = .ok (.iadd, 1) := by decide +kernel
theorem dL_law_670 : decode cL_law 670 = .ok (.iaload, 1) := by decide +kernel
theorem dL_law_671 : decode cL_law 671 = .ok (.aload_n 0, 1) := by decide +kernel
theorem dL_law_672 : decode cL_law 672 = .ok (.iload_n 3, 1) := by decide +kernel
theorem dL_law_673 : decode cL_law 673 = .ok (.iconst 2, 1) := by decide +kernel
theorem dL_law_674 : decode cL_law 674 = .ok (.iadd, 1) := by decide +kernel
theorem dL_law_675 : decode cL_law 675 = .ok (.iaload, 1) := by decide +kernel
theorem dL_law_676 : decode cL_law 676 = .ok (.invokevirtual 82, 3) := by decide +kernel
theorem dL_law_679 : decode cL_law 679 = .ok (.if_icmp .eq 28, 3) := by decide +kernel
theorem dL_law_682 : decode cL_law 682 = .ok (.iconst 0, 1) := by decide +kernel
theorem dL_law_683 : decode cL_law 683 = .ok (.ireturn, 1) := by decide +kernel
theorem dL_law_684 : decode cL_law 684 = .ok (.aload_n 1, 1) := by decide +kernel
theorem dL_law_685 : decode cL_law 685 = .ok (.aload_n 0, 1) := by decide +kernel
theorem dL_law_686 : decode cL_law 686 = .ok (.iload_n 3, 1) := by decide +kernel
theorem dL_law_687 : decode cL_law 687 = .ok (.iconst 1, 1) := by decide +kernel
theorem dL_law_688 : decode cL_law 688 = .ok (.iadd, 1) := by decide +kernel
theorem dL_law_689 : decode cL_law 689 = .ok (.iaload, 1) := by decide +kernel
theorem dL_law_690 : decode cL_law 690 = .ok (.invokevirtual 83, 3) := by decide +kernel
theorem dL_law_693 : decode cL_law 693 = .ok (.aload_n 2, 1) := by decide +kernel
theorem dL_law_694 : decode cL_law 694 = .ok (.aload_n 0, 1) := by decide +kernel
theorem dL_law_695 : decode cL_law 695 = .ok (.iload_n 3, 1) := by decide +kernel
theorem dL_law_696 : decode cL_law 696 = .ok (.iconst 1, 1) := by decide +kernel
theorem dL_law_697 : decode cL_law 697 = .ok (.iadd, 1) := by decide +kernel
theorem dL_law_698 : decode cL_law 698 = .ok (.iaload, 1) := by decide +kernel
theorem dL_law_699 : decode cL_law 699 = .ok (.invokevirtual 86, 3) := by decide +kernel
theorem dL_law_702 : decode cL_law 702 = .ok (.if_icmp .eq 5, 3) := by decide +kernel
theorem dL_law_705 : decode cL_law 705 = .ok (.iconst 0, 1) := by decide +kernel
theorem dL_law_706 : decode cL_law 706 = .ok (.ireturn, 1) := by decide +kernel
theorem dL_law_707 : decode cL_law 707 = .ok (.iinc 3 5, 3) := by decide +kernel
theorem dL_law_710 : decode cL_law 710 = .ok (.goto (-692), 3) := by decide +kernel
theorem dL_law_713 : decode cL_law 713 = .ok (.iconst 1, 1) := by decide +kernel
theorem dL_law_714 : decode cL_law 714 = .ok (.ireturn, 1) := by decide +kernel
set_option maxHeartbeats 4000000 in
set_option maxRecDepth 100000 in
theorem bL_law_18 {p : Program} {l : Launch} {e : Env} {s : State} {m : MethodId} {below : List Frame} {meth : Method} {c : Code} {D : va_G} {dA : Nat → ClassId} {σ0 τ : PH} {b L : Nat} {xs : Nat → Int32} {F : Nat} (E : x_E p s m #[Value.ref b] c cL_law 4 "WireMoneyLaw" D dA) (hX : va_X b L xs s s.heap ∧ b < s.heap.size ∧ b < s.heap.size) (hr : meth.sig.returnType = ret) (hk : meth.locks = false) (hfr : room_1.frames = 9) (hlo : room_1.locals = 324) : ∀ (n : Nat) (y1 : Option Nat) (y2 : Option Nat) (y3 : Int32) (σ : PH) (H : Heap) (locs : List Loc) (ls : Array Slot), x_S s.heap.size D dA room_1 s σ0 τ σ H locs → x_rn (mL_law_18 F L xs n y1 y2 y3) σ = some (1, τ) → x_lv ls 4 [(0, .inr (.inl (some b))), (1, .inr (.inl y1)), (2, .inr (.inl y2)), (3, .inl y3)] → W p l e room_1 s m #[Value.ref b] below meth c H locs (x_N σ - x_N σ0) (x_U σ - x_U σ0) (lw_Z below #[Value.ref b] s) (F0 m 18 ls []) := by
  intro n
  induction n with
  | zero =>
    intro y1 y2 y3 σ H locs ls S hM hl
    cases hM
  | succ n ih =>
    intro y1 y2 y3 σ H locs ls S hM hl
    rw [mL_law_18] at hM
    refine w_iload_n E hl 3 dL_law_18 rfl ?_
    refine w_aload_n E hl 0 dL_law_19 rfl ?_
    refine w_sl E S hX dL_law_20 ?_
    refine lv_iconst (v := (5 : Int32)) E.1 E.2.1 dL_law_21 (by decide) ?_
    refine lv_isub E.1 E.2.1 dL_law_22 ?_
    refine lv_icmp_gt (tgt := 713) E.1 E.2.1 dL_law_23 (by decide) (fun c23 => ?_) (fun c23 => ?_)
    · replace hM := x_okT hM c23
      refine lv_iconst (v := (1 : Int32)) E.1 E.2.1 dL_law_713 (by decide) ?_
      exact w_lret E S hM hr hk dL_law_714
    · replace hM := x_okF hM c23
      refine w_aload_n E hl 0 dL_law_26 rfl ?_
      refine w_iload_n E hl 3 dL_law_27 rfl ?_
      refine w_sc E S hX hM dL_law_28 (fun v28 hM => ?_)
      refine lv_bipush (v := (31 : Int32)) E.1 E.2.1 dL_law_29 (by decide) ?_
      refine lv_iand E.1 E.2.1 dL_law_31 ?_
      by_cases h32_0 : (v28 &&& (31 : Int32)) = 0
      · replace hM := x_okT hM h32_0
        refine lv_tableIn (off := 84) (tgt := 116) E.1 E.2.1 dL_law_32 (by rw [h32_0]; decide) (by rw [h32_0]; decide) (by rw [h32_0]; rfl) (by decide) ?_
        refine w_aload_n E hl 1 dL_law_116 rfl ?_
        refine w_aload_n E hl 0 dL_law_117 rfl ?_
        refine w_iload_n E hl 3 dL_law_118 rfl ?_
        refine lv_iconst (v := (1 : Int32)) E.1 E.2.1 dL_law_119 (by decide) ?_
        refine lv_iadd E.1 E.2.1 dL_law_120 ?_
        refine w_sc E S hX hM dL_law_121 (fun v121 hM => ?_)
        refine w_aload_n E hl 0 dL_law_122 rfl ?_
        refine w_iload_n E hl 3 dL_law_123 rfl ?_
        refine lv_iconst (v := (2 : Int32)) E.1 E.2.1 dL_law_124 (by decide) ?_
        refine lv_iadd E.1 E.2.1 dL_law_125 ?_
        refine w_sc E S hX hM dL_law_126 (fun v126 hM => ?_)
        refine w_aload_n E hl 0 dL_law_127 rfl ?_
        refine w_iload_n E hl 3 dL_law_128 rfl ?_
        refine lv_iconst (v := (3 : Int32)) E.1 E.2.1 dL_law_129 (by decide) ?_
        refine lv_iadd E.1 E.2.1 dL_law_130 ?_
        refine w_sc E S hX hM dL_law_131 (fun v131 hM => ?_)
        refine w_cVi (rest := []) E S hl hM (kX8_counter l s.heap.size D dA F y1 v121 v126 v131) mcX8_counter ⟨by decide, rfl, wd_111, wd_112, wd_113⟩ hfr hlo (by decide) rfl (Nat.le_of_ble_eq_true rfl) dL_law_132 rfl (fun v132 σ H locs S hM => ?_)
        refine w_aload_n E hl 2 dL_law_135 rfl ?_
        refine w_aload_n E hl 0 dL_law_136 rfl ?_
        refine w_iload_n E hl 3 dL_law_137 rfl ?_
        refine lv_iconst (v := (1 : Int32)) E.1 E.2.1 dL_law_138 (by decide) ?_
        refine lv_iadd E.1 E.2.1 dL_law_139 ?_
        refine w_sc E S hX hM dL_law_140 (fun v140 hM => ?_)
        refine w_aload_n E hl 0 dL_law_141 rfl ?_
        refine w_iload_n E hl 3 dL_law_142 rfl ?_
        refine lv_iconst (v := (2 : Int32)) E.1 E.2.1 dL_law_143 (by decide) ?_
        refine lv_iadd E.1 E.2.1 dL_law_144 ?_
        refine w_sc E S hX hM dL_law_145 (fun v145 hM => ?_)
        refine w_aload_n E hl 0 dL_law_146 rfl ?_
        refine w_iload_n E hl 3 dL_law_147 rfl ?_
        refine lv_iconst (v := (3 : Int32)) E.1 E.2.1 dL_law_148 (by decide) ?_
        refine lv_iadd E.1 E.2.1 dL_law_149 ?_
        refine w_sc E S hX hM dL_law_150 (fun v150 hM => ?_)
        refine w_cVi (rest := [.int v132]) E S hl hM (kX9_counter l s.heap.size D dA F y2 v140 v145 v150) mcX9_counter ⟨by decide, rfl, wd_758, wd_759, wd_760⟩ hfr hlo (by decide) rfl (Nat.le_of_ble_eq_true rfl) dL_law_151 rfl (fun v151 σ H locs S hM => ?_)
        refine lv_icmp_eq (tgt := 707) E.1 E.2.1 dL_law_154 (by decide) (fun c154 => ?_) (fun c154 => ?_)
        · replace hM := x_okT hM c154
          refine w_iincN (ltf := fun v707 => [(3, .inl v707), (0, .inr (.inl (some b))), (1, .inr (.inl y1)), (2, .inr (.inl y2))]) E hl 3 hM dL_law_707 rfl (by decide) (by decide) (fun _ => rfl) (fun v707 ls hM hl => ?_)
          refine lv_goto (tgt := 18) E.1 E.2.1 dL_law_710 (by decide) ?_
          exact ih y1 y2 v707 _ _ _ _ S hM (x_lv_sub hl [1, 2, 3, 0] rfl)
        · replace hM := x_okF hM c154
          refine lv_iconst (v := (0 : Int32)) E.1 E.2.1 dL_law_157 (by decide) ?_
          exact w_lno hM
      replace hM := x_okF hM h32_0
      by_cases h32_1 : (v28 &&& (31 : Int32)) = 1
      · replace hM := x_okT hM h32_1
        refine lv_tableIn (off := 127) (tgt := 159) E.1 E.2.1 dL_law_32 (by rw [h32_1]; decide) (by rw [h32_1]; decide) (by rw [h32_1]; rfl) (by decide) ?_
        refine w_aload_n E hl 1 dL_law_159 rfl ?_
        refine w_aload_n E hl 0 dL_law_160 rfl ?_
        refine w_iload_n E hl 3 dL_law_161 rfl ?_
        refine lv_iconst (v := (1 : Int32)) E.1 E.2.1 dL_law_162 (by decide) ?_
        refine lv_iadd E.1 E.2.1 dL_law_163 ?_
        refine w_sc E S hX hM dL_law_164 (fun v164 hM => ?_)
        refine w_aload_n E hl 0 dL_law_165 rfl ?_
        refine w_iload_n E hl 3 dL_law_166 rfl ?_
        refine lv_iconst (v := (2 : Int32)) E.1 E.2.1 dL_law_167 (by decide) ?_
        refine lv_iadd E.1 E.2.1 dL_law_168 ?_
        refine w_sc E S hX hM dL_law_169 (fun v169 hM => ?_)
        refine w_aload_n E hl 0 dL_law_170 rfl ?_
        refine w_iload_n E hl 3 dL_law_171 rfl ?_
        refine lv_iconst (v := (3 : Int32)) E.1 E.2.1 dL_law_172 (by decide) ?_
        refine lv_iadd E.1 E.2.1 dL_law_173 ?_
        refine w_sc E S hX hM dL_law_174 (fun v174 hM => ?_)
        refine w_cVi (rest := []) E S hl hM (kX8_wire l s.heap.size D dA F y1 v164 v169 v174) mcX8_wire ⟨by decide, rfl, wd_149, wd_150, wd_151⟩ hfr hlo (by decide) rfl (Nat.le_of_ble_eq_true rfl) dL_law_175 rfl (fun v175 σ H locs S hM => ?_)
        refine w_aload_n E hl 2 dL_law_178 rfl ?_
        refine w_aload_n E hl 0 dL_law_179 rfl ?_
        refine w_iload_n E hl 3 dL_law_180 rfl ?_
        refine lv_iconst (v := (1 : Int32)) E.1 E.2.1 dL_law_181 (by decide) ?_
        refine lv_iadd E.1 E.2.1 dL_law_182 ?_
        refine w_sc E S hX hM dL_law_183 (fun v183 hM => ?_)
        refine w_aload_n E hl 0 dL_law_184 rfl ?_
        refine w_iload_n E hl 3 dL_law_185 rfl ?_
        refine lv_iconst (v := (2 : Int32)) E.1 E.2.1 dL_law_186 (by decide) ?_
        refine lv_iadd E.1 E.2.1 dL_law_187 ?_
        refine w_sc E S hX hM dL_law_188 (fun v188 hM => ?_)
        refine w_aload_n E hl 0 dL_law_189 rfl ?_
        refine w_iload_n E hl 3 dL_law_190 rfl ?_
        refine lv_iconst (v := (3 : Int32)) E.1 E.2.1 dL_law_191 (by decide) ?_
        refine lv_iadd E.1 E.2.1 dL_law_192 ?_
        refine w_sc E S hX hM dL_law_193 (fun v193 hM => ?_)
        refine w_cVi (rest := [.int v175]) E S hl hM (kX9_wire l s.heap.size D dA F y2 v183 v188 v193) mcX9_wire ⟨by decide, rfl, wd_765, wd_766, wd_767⟩ hfr hlo (by decide) rfl (Nat.le_of_ble_eq_true rfl) dL_law_194 rfl (fun v194 σ H locs S hM => ?_)
        refine lv_icmp_eq (tgt := 707) E.1 E.2.1 dL_law_197 (by decide) (fun c197 => ?_) (fun c197 => ?_)
        · replace hM := x_okT hM c197
          refine w_iincN (ltf := fun v707 => [(3, .inl v707), (0, .inr (.inl (some b))), (1, .inr (.inl y1)), (2, .inr (.inl y2))]) E hl 3 hM dL_law_707 rfl (by decide) (by decide) (fun _ => rfl) (fun v707 ls hM hl => ?_)
          refine lv_goto (tgt := 18) E.1 E.2.1 dL_law_710 (by decide) ?_
          exact ih y1 y2 v707 _ _ _ _ S hM (x_lv_sub hl [1, 2, 3, 0] rfl)
        · replace hM := x_okF hM c197
          refine lv_iconst (v := (0 : Int32)) E.1 E.2.1 dL_law_200 (by decide) ?_
          exact w_lno hM
      replace hM := x_okF hM h32_1
      by_cases h32_2 : (v28 &&& (31 : Int32)) = 2
      · replace hM := x_okT hM h32_2
        refine lv_tableIn (off := 170) (tgt := 202) E.1 E.2.1 dL_law_32 (by rw [h32_2]; decide) (by rw [h32_2]; decide) (by rw [h32_2]; rfl) (by decide) ?_
        refine w_aload_n E hl 1 dL_law_202 rfl ?_
        refine w_aload_n E hl 0 dL_law_203 rfl ?_
        refine w_iload_n E hl 3 dL_law_204 rfl ?_
        refine lv_iconst (v := (1 : Int32)) E.1 E.2.1 dL_law_205 (by decide) ?_
        refine lv_iadd E.1 E.2.1 dL_law_206 ?_
        refine w_sc E S hX hM dL_law_207 (fun v207 hM => ?_)
        refine w_aload_n E hl 0 dL_law_208 rfl ?_
        refine w_iload_n E hl 3 dL_law_209 rfl ?_
        refine lv_iconst (v := (2 : Int32)) E.1 E.2.1 dL_law_210 (by decide) ?_
        refine lv_iadd E.1 E.2.1 dL_law_211 ?_
        refine w_sc E S hX hM dL_law_212 (fun v212 hM => ?_)
        refine w_aload_n E hl 0 dL_law_213 rfl ?_
        refine w_iload_n E hl 3 dL_law_214 rfl ?_
        refine lv_iconst (v := (3 : Int32)) E.1 E.2.1 dL_law_215 (by decide) ?_
        refine lv_iadd E.1 E.2.1 dL_law_216 ?_
        refine w_sc E S hX hM dL_law_217 (fun v217 hM => ?_)
        refine w_cVi (rest := []) E S hl hM (kX8_down l s.heap.size D dA F y1 v207 v212 v217) mcX8_down ⟨by decide, rfl, wd_242, wd_243, wd_244⟩ hfr hlo (by decide) rfl (Nat.le_of_ble_eq_true rfl) dL_law_218 rfl (fun v218 σ H locs S hM => ?_)
        refine w_aload_n E hl 2 dL_law_221 rfl ?_
        refine w_aload_n E hl 0 dL_law_222 rfl ?_
        refine w_iload_n E hl 3 dL_law_223 rfl ?_
        refine lv_iconst (v := (1 : Int32)) E.1 E.2.1 dL_law_224 (by decide) ?_
        refine lv_iadd E.1 E.2.1 dL_law_225 ?_
        refine w_sc E S hX hM dL_law_226 (fun v226 hM => ?_)
        refine w_aload_n E hl 0 dL_law_227 rfl ?_
        refine w_iload_n E hl 3 dL_law_228 rfl ?_
        refine lv_iconst (v := (2 : Int32)) E.1 E.2.1 dL_law_229 (by decide) ?_
        refine lv_iadd E.1 E.2.1 dL_law_230 ?_
        refine w_sc E S hX hM dL_law_231 (fun v231 hM => ?_)
        refine w_aload_n E hl 0 dL_law_232 rfl ?_
        refine w_iload_n E hl 3 dL_law_233 rfl ?_
        refine lv_iconst (v := (3 : Int32)) E.1 E.2.1 dL_law_234 (by decide) ?_
        refine lv_iadd E.1 E.2.1 dL_law_235 ?_
        refine w_sc E S hX hM dL_law_236 (fun v236 hM => ?_)
        refine w_cVi (rest := [.int v218]) E S hl hM (kX9_down l s.heap.size D dA F y2 v226 v231 v236) mcX9_down ⟨by decide, rfl, wd_773, wd_774, wd_775⟩ hfr hlo (by decide) rfl (Nat.le_of_ble_eq_true rfl) dL_law_237 rfl (fun v237 σ H locs S hM => ?_)
        refine lv_icmp_eq (tgt := 707) E.1 E.2.1 dL_law_240 (by decide) (fun c240 => ?_) (fun c240 => ?_)
        · replace hM := x_okT hM c240
          refine w_iincN (ltf := fun v707 => [(3, .inl v707), (0, .inr (.inl (some b))), (1, .inr (.inl y1)), (2, .inr (.inl y2))]) E hl 3 hM dL_law_707 rfl (by decide) (by decide) (fun _ => rfl) (fun v707 ls hM hl => ?_)
          refine lv_goto (tgt := 18) E.1 E.2.1 dL_law_710 (by decide) ?_
          exact ih y1 y2 v707 _ _ _ _ S hM (x_lv_sub hl [1, 2, 3, 0] rfl)
        · replace hM := x_okF hM c240
          refine lv_iconst (v := (0 : Int32)) E.1 E.2.1 dL_law_243 (by decide) ?_
          exact w_lno hM
      replace hM := x_okF hM h32_2
      by_cases h32_3 : (v28 &&& (31 : Int32)) = 3
      · replace hM := x_okT hM h32_3
        refine lv_tableIn (off := 213) (tgt := 245) E.1 E.2.1 dL_law_32 (by rw [h32_3]; decide) (by rw [h32_3]; decide) (by rw [h32_3]; rfl) (by decide) ?_
        refine w_aload_n E hl 1 dL_law_245 rfl ?_
        refine w_aload_n E hl 0 dL_law_246 rfl ?_
        refine w_iload_n E hl 3 dL_law_247 rfl ?_
        refine lv_iconst (v := (1 : Int32)) E.1 E.2.1 dL_law_248 (by decide) ?_
        refine lv_iadd E.1 E.2.1 dL_law_249 ?_
        refine w_sc E S hX hM dL_law_250 (fun v250 hM => ?_)
        refine w_aload_n E hl 0 dL_law_251 rfl ?_
        refine w_iload_n E hl 3 dL_law_252 rfl ?_
        refine lv_iconst (v := (2 : Int32)) E.1 E.2.1 dL_law_253 (by decide) ?_
        refine lv_iadd E.1 E.2.1 dL_law_254 ?_
        refine w_sc E S hX hM dL_law_255 (fun v255 hM => ?_)
        refine w_cVi (rest := []) E S hl hM (kX8_least l s.heap.size D dA F y1 v250 v255) mcX8_least ⟨by decide, rfl, wd_250, wd_251, wd_252⟩ hfr hlo (by decide) rfl (Nat.le_of_ble_eq_true rfl) dL_law_256 rfl (fun v256 σ H locs S hM => ?_)
        refine w_aload_n E hl 2 dL_law_259 rfl ?_
        refine w_aload_n E hl 0 dL_law_260 rfl ?_
        refine w_iload_n E hl 3 dL_law_261 rfl ?_
        refine lv_iconst (v := (1 : Int32)) E.1 E.2.1 dL_law_262 (by decide) ?_
        refine lv_iadd E.1 E.2.1 dL_law_263 ?_
        refine w_sc E S hX hM dL_law_264 (fun v264 hM => ?_)
        refine w_aload_n E hl 0 dL_law_265 rfl ?_
        refine w_iload_n E hl 3 dL_law_266 rfl ?_
        refine lv_iconst (v := (2 : Int32)) E.1 E.2.1 dL_law_267 (by decide) ?_
        refine lv_iadd E.1 E.2.1 dL_law_268 ?_
        refine w_sc E S hX hM dL_law_269 (fun v269 hM => ?_)
        refine w_cVi (rest := [.int v256]) E S hl hM (kX9_least l s.heap.size D dA F y2 v264 v269) mcX9_least ⟨by decide, rfl, wd_777, wd_778, wd_779⟩ hfr hlo (by decide) rfl (Nat.le_of_ble_eq_true rfl) dL_law_270 rfl (fun v270 σ H locs S hM => ?_)
        refine lv_icmp_eq (tgt := 707) E.1 E.2.1 dL_law_273 (by decide) (fun c273 => ?_) (fun c273 => ?_)
        · replace hM := x_okT hM c273
          refine w_iincN (ltf := fun v707 => [(3, .inl v707), (0, .inr (.inl (some b))), (1, .inr (.inl y1)), (2, .inr (.inl y2))]) E hl 3 hM dL_law_707 rfl (by decide) (by decide) (fun _ => rfl) (fun v707 ls hM hl => ?_)
          refine lv_goto (tgt := 18) E.1 E.2.1 dL_law_710 (by decide) ?_
          exact ih y1 y2 v707 _ _ _ _ S hM (x_lv_sub hl [1, 2, 3, 0] rfl)
        · replace hM := x_okF hM c273
          refine lv_iconst (v := (0 : Int32)) E.1 E.2.1 dL_law_276 (by decide) ?_
          exact w_lno hM
      replace hM := x_okF hM h32_3
      by_cases h32_4 : (v28 &&& (31 : Int32)) = 4
      · replace hM := x_okT hM h32_4
        refine lv_tableIn (off := 246) (tgt := 278) E.1 E.2.1 dL_law_32 (by rw [h32_4]; decide) (by rw [h32_4]; decide) (by rw [h32_4]; rfl) (by decide) ?_
        refine w_aload_n E hl 1 dL_law_278 rfl ?_
        refine w_aload_n E hl 0 dL_law_279 rfl ?_
        refine w_iload_n E hl 3 dL_law_280 rfl ?_
        refine lv_iconst (v := (1 : Int32)) E.1 E.2.1 dL_law_281 (by decide) ?_
        refine lv_iadd E.1 E.2.1 dL_law_282 ?_
        refine w_sc E S hX hM dL_law_283 (fun v283 hM => ?_)
        refine w_aload_n E hl 0 dL_law_284 rfl ?_
        refine w_iload_n E hl 3 dL_law_285 rfl ?_
        refine lv_iconst (v := (2 : Int32)) E.1 E.2.1 dL_law_286 (by decide) ?_
        refine lv_iadd E.1 E.2.1 dL_law_287 ?_
        refine w_sc E S hX hM dL_law_288 (fun v288 hM => ?_)
        refine w_cVi (rest := []) E S hl hM (kX8_band l s.heap.size D dA F y1 v283 v288) mcX8_band ⟨by decide, rfl, wd_263, wd_264, wd_265⟩ hfr hlo (by decide) rfl (Nat.le_of_ble_eq_true rfl) dL_law_289 rfl (fun v289 σ H locs S hM => ?_)
        refine w_aload_n E hl 2 dL_law_292 rfl ?_
        refine w_aload_n E hl 0 dL_law_293 rfl ?_
        refine w_iload_n E hl 3 dL_law_294 rfl ?_
        refine lv_iconst (v := (1 : Int32)) E.1 E.2.1 dL_law_295 (by decide) ?_
        refine lv_iadd E.1 E.2.1 dL_law_296 ?_
        refine w_sc E S hX hM dL_law_297 (fun v297 hM => ?_)
        refine w_aload_n E hl 0 dL_law_298 rfl ?_
        refine w_iload_n E hl 3 dL_law_299 rfl ?_
        refine lv_iconst (v := (2 : Int32)) E.1 E.2.1 dL_law_300 (by decide) ?_
        refine lv_iadd E.1 E.2.1 dL_law_301 ?_
        refine w_sc E S hX hM dL_law_302 (fun v302 hM => ?_)
        refine w_cVi (rest := [.int v289]) E S hl hM (kX9_band l s.heap.size D dA F y2 v297 v302) mcX9_band ⟨by decide, rfl, wd_781, wd_782, wd_783⟩ hfr hlo (by decide) rfl (Nat.le_of_ble_eq_true rfl) dL_law_303 rfl (fun v303 σ H locs S hM => ?_)
        refine lv_icmp_eq (tgt := 707) E.1 E.2.1 dL_law_306 (by decide) (fun c306 => ?_) (fun c306 => ?_)
        · replace hM := x_okT hM c306
          refine w_iincN (ltf := fun v707 => [(3, .inl v707), (0, .inr (.inl (some b))), (1, .inr (.inl y1)), (2, .inr (.inl y2))]) E hl 3 hM dL_law_707 rfl (by decide) (by decide) (fun _ => rfl) (fun v707 ls hM hl => ?_)
          refine lv_goto (tgt := 18) E.1 E.2.1 dL_law_710 (by decide) ?_
          exact ih y1 y2 v707 _ _ _ _ S hM (x_lv_sub hl [1, 2, 3, 0] rfl)
        · replace hM := x_okF hM c306
          refine lv_iconst (v := (0 : Int32)) E.1 E.2.1 dL_law_309 (by decide) ?_
          exact w_lno hM
      replace hM := x_okF hM h32_4
      by_cases h32_5 : (v28 &&& (31 : Int32)) = 5
      · replace hM := x_okT hM h32_5
        refine lv_tableIn (off := 279) (tgt := 311) E.1 E.2.1 dL_law_32 (by rw [h32_5]; decide) (by rw [h32_5]; decide) (by rw [h32_5]; rfl) (by decide) ?_
        refine w_aload_n E hl 1 dL_law_311 rfl ?_
        refine w_aload_n E hl 0 dL_law_312 rfl ?_
        refine w_iload_n E hl 3 dL_law_313 rfl ?_
        refine lv_iconst (v := (1 : Int32)) E.1 E.2.1 dL_law_314 (by decide) ?_
        refine lv_iadd E.1 E.2.1 dL_law_315 ?_
        refine w_sc E S hX hM dL_law_316 (fun v316 hM => ?_)
        refine w_cVi (rest := []) E S hl hM (kX8_fee l s.heap.size D dA F y1 v316) mcX8_fee ⟨by decide, rfl, wd_276, wd_277, wd_278⟩ hfr hlo (by decide) rfl (Nat.le_of_ble_eq_true rfl) dL_law_317 rfl (fun v317 σ H locs S hM => ?_)
        refine w_aload_n E hl 2 dL_law_320 rfl ?_
        refine w_aload_n E hl 0 dL_law_321 rfl ?_
        refine w_iload_n E hl 3 dL_law_322 rfl ?_
        refine lv_iconst (v := (1 : Int32)) E.1 E.2.1 dL_law_323 (by decide) ?_
        refine lv_iadd E.1 E.2.1 dL_law_324 ?_
        refine w_sc E S hX hM dL_law_325 (fun v325 hM => ?_)
        refine w_cVi (rest := [.int v317]) E S hl hM (kX9_fee l s.heap.size D dA F y2 v325) mcX9_fee ⟨by decide, rfl, wd_786, wd_787, wd_788⟩ hfr hlo (by decide) rfl (Nat.le_of_ble_eq_true rfl) dL_law_326 rfl (fun v326 σ H locs S hM => ?_)
        refine lv_icmp_eq (tgt := 707) E.1 E.2.1 dL_law_329 (by decide) (fun c329 => ?_) (fun c329 => ?_)
        · replace hM := x_okT hM c329
          refine w_iincN (ltf := fun v707 => [(3, .inl v707), (0, .inr (.inl (some b))), (1, .inr (.inl y1)), (2, .inr (.inl y2))]) E hl 3 hM dL_law_707 rfl (by decide) (by decide) (fun _ => rfl) (fun v707 ls hM hl => ?_)
          refine lv_goto (tgt := 18) E.1 E.2.1 dL_law_710 (by decide) ?_
          exact ih y1 y2 v707 _ _ _ _ S hM (x_lv_sub hl [1, 2, 3, 0] rfl)
        · replace hM := x_okF hM c329
          refine lv_iconst (v := (0 : Int32)) E.1 E.2.1 dL_law_332 (by decide) ?_
          exact w_lno hM
      replace hM := x_okF hM h32_5
      by_cases h32_6 : (v28 &&& (31 : Int32)) = 6
      · replace hM := x_okT hM h32_6
        refine lv_tableIn (off := 302) (tgt := 334) E.1 E.2.1 dL_law_32 (by rw [h32_6]; decide) (by rw [h32_6]; decide) (by rw [h32_6]; rfl) (by decide) ?_
        refine w_aload_n E hl 1 dL_law_334 rfl ?_
        refine w_aload_n E hl 0 dL_law_335 rfl ?_
        refine w_iload_n E hl 3 dL_law_336 rfl ?_
        refine lv_iconst (v := (1 : Int32)) E.1 E.2.1 dL_law_337 (by decide) ?_
        refine lv_iadd E.1 E.2.1 dL_law_338 ?_
        refine w_sc E S hX hM dL_law_339 (fun v339 hM => ?_)
        refine w_aload_n E hl 0 dL_law_340 rfl ?_
        refine w_iload_n E hl 3 dL_law_341 rfl ?_
        refine lv_iconst (v := (2 : Int32)) E.1 E.2.1 dL_law_342 (by decide) ?_
        refine lv_iadd E.1 E.2.1 dL_law_343 ?_
        refine w_sc E S hX hM dL_law_344 (fun v344 hM => ?_)
        refine w_aload_n E hl 0 dL_law_345 rfl ?_
        refine w_iload_n E hl 3 dL_law_346 rfl ?_
        refine lv_iconst (v := (3 : Int32)) E.1 E.2.1 dL_law_347 (by decide) ?_
        refine lv_iadd E.1 E.2.1 dL_law_348 ?_
        refine w_sc E S hX hM dL_law_349 (fun v349 hM => ?_)
        refine w_aload_n E hl 0 dL_law_350 rfl ?_
        refine w_iload_n E hl 3 dL_law_351 rfl ?_
        refine lv_iconst (v := (4 : Int32)) E.1 E.2.1 dL_law_352 (by decide) ?_
        refine lv_iadd E.1 E.2.1 dL_law_353 ?_
        refine w_sc E S hX hM dL_law_354 (fun v354 hM => ?_)
        refine w_cVi (rest := []) E S hl hM (kX8_order l s.heap.size D dA F y1 v339 v344 v349 v354) mcX8_order ⟨by decide, rfl, wd_287, wd_288, wd_289⟩ hfr hlo (by decide) rfl (Nat.le_of_ble_eq_true rfl) dL_law_355 rfl (fun v355 σ H locs S hM => ?_)
        refine w_aload_n E hl 2 dL_law_358 rfl ?_
        refine w_aload_n E hl 0 dL_law_359 rfl ?_
        refine w_iload_n E hl 3 dL_law_360 rfl ?_
        refine lv_iconst (v := (1 : Int32)) E.1 E.2.1 dL_law_361 (by decide) ?_
        refine lv_iadd E.1 E.2.1 dL_law_362 ?_
        refine w_sc E S hX hM dL_law_363 (fun v363 hM => ?_)
        refine w_aload_n E hl 0 dL_law_364 rfl ?_
        refine w_iload_n E hl 3 dL_law_365 rfl ?_
        refine lv_iconst (v := (2 : Int32)) E.1 E.2.1 dL_law_366 (by decide) ?_
        refine lv_iadd E.1 E.2.1 dL_law_367 ?_
        refine w_sc E S hX hM dL_law_368 (fun v368 hM => ?_)
        refine w_aload_n E hl 0 dL_law_369 rfl ?_
        refine w_iload_n E hl 3 dL_law_370 rfl ?_
        refine lv_iconst (v := (3 : Int32)) E.1 E.2.1 dL_law_371 (by decide) ?_
        refine lv_iadd E.1 E.2.1 dL_law_372 ?_
        refine w_sc E S hX hM dL_law_373 (fun v373 hM => ?_)
        refine w_aload_n E hl 0 dL_law_374 rfl ?_
        refine w_iload_n E hl 3 dL_law_375 rfl ?_
        refine lv_iconst (v := (4 : Int32)) E.1 E.2.1 dL_law_376 (by decide) ?_
        refine lv_iadd E.1 E.2.1 dL_law_377 ?_
        refine w_sc E S hX hM dL_law_378 (fun v378 hM => ?_)
        refine w_cVi (rest := [.int v355]) E S hl hM (kX9_order l s.heap.size D dA F y2 v363 v368 v373 v378) mcX9_order ⟨by decide, rfl, wd_790, wd_791, wd_792⟩ hfr hlo (by decide) rfl (Nat.le_of_ble_eq_true rfl) dL_law_379 rfl (fun v379 σ H locs S hM => ?_)
        refine lv_icmp_eq (tgt := 707) E.1 E.2.1 dL_law_382 (by decide) (fun c382 => ?_) (fun c382 => ?_)
        · replace hM := x_okT hM c382
          refine w_iincN (ltf := fun v707 => [(3, .inl v707), (0, .inr (.inl (some b))), (1, .inr (.inl y1)), (2, .inr (.inl y2))]) E hl 3 hM dL_law_707 rfl (by decide) (by decide) (fun _ => rfl) (fun v707 ls hM hl => ?_)
          refine lv_goto (tgt := 18) E.1 E.2.1 dL_law_710 (by decide) ?_
          exact ih y1 y2 v707 _ _ _ _ S hM (x_lv_sub hl [1, 2, 3, 0] rfl)
        · replace hM := x_okF hM c382
          refine lv_iconst (v := (0 : Int32)) E.1 E.2.1 dL_law_385 (by decide) ?_
          exact w_lno hM
      replace hM := x_okF hM h32_6
      by_cases h32_7 : (v28 &&& (31 : Int32)) = 7
      · replace hM := x_okT hM h32_7
        refine lv_tableIn (off := 355) (tgt := 387) E.1 E.2.1 dL_law_32 (by rw [h32_7]; decide) (by rw [h32_7]; decide) (by rw [h32_7]; rfl) (by decide) ?_
        refine w_aload_n E hl 1 dL_law_387 rfl ?_
        refine w_aload_n E hl 0 dL_law_388 rfl ?_
        refine w_iload_n E hl 3 dL_law_389 rfl ?_
        refine lv_iconst (v := (1 : Int32)) E.1 E.2.1 dL_law_390 (by decide) ?_
        refine lv_iadd E.1 E.2.1 dL_law_391 ?_
        refine w_sc E S hX hM dL_law_392 (fun v392 hM => ?_)
        refine w_cVi (rest := []) E S hl hM (kX8_stop l s.heap.size D dA F y1 v392) mcX8_stop ⟨by decide, rfl, wd_452, wd_453, wd_454⟩ hfr hlo (by decide) rfl (Nat.le_of_ble_eq_true rfl) dL_law_393 rfl (fun v393 σ H locs S hM => ?_)
        refine w_aload_n E hl 2 dL_law_396 rfl ?_
        refine w_aload_n E hl 0 dL_law_397 rfl ?_
        refine w_iload_n E hl 3 dL_law_398 rfl ?_
        refine lv_iconst (v := (1 : Int32)) E.1 E.2.1 dL_law_399 (by decide) ?_
        refine lv_iadd E.1 E.2.1 dL_law_400 ?_
        refine w_sc E S hX hM dL_law_401 (fun v401 hM => ?_)
        refine w_cVi (rest := [.int v393]) E S hl hM (kX9_stop l s.heap.size D dA F y2 v401) mcX9_stop ⟨by decide, rfl, wd_826, wd_827, wd_828⟩ hfr hlo (by decide) rfl (Nat.le_of_ble_eq_true rfl) dL_law_402 rfl (fun v402 σ H locs S hM => ?_)
        refine lv_icmp_eq (tgt := 707) E.1 E.2.1 dL_law_405 (by decide) (fun c405 => ?_) (fun c405 => ?_)
        · replace hM := x_okT hM c405
          refine w_iincN (ltf := fun v707 => [(3, .inl v707), (0, .inr (.inl (some b))), (1, .inr (.inl y1)), (2, .inr (.inl y2))]) E hl 3 hM dL_law_707 rfl (by decide) (by decide) (fun _ => rfl) (fun v707 ls hM hl => ?_)
          refine lv_goto (tgt := 18) E.1 E.2.1 dL_law_710 (by decide) ?_
          exact ih y1 y2 v707 _ _ _ _ S hM (x_lv_sub hl [1, 2, 3, 0] rfl)
        · replace hM := x_okF hM c405
          refine lv_iconst (v := (0 : Int32)) E.1 E.2.1 dL_law_408 (by decide) ?_
          exact w_lno hM
      replace hM := x_okF hM h32_7
      by_cases h32_8 : (v28 &&& (31 : Int32)) = 8
      · replace hM := x_okT hM h32_8
        refine lv_tableIn (off := 378) (tgt := 410) E.1 E.2.1 dL_law_32 (by rw [h32_8]; decide) (by rw [h32_8]; decide) (by rw [h32_8]; rfl) (by decide) ?_
        refine w_aload_n E hl 1 dL_law_410 rfl ?_
        refine w_aload_n E hl 0 dL_law_411 rfl ?_
        refine w_iload_n E hl 3 dL_law_412 rfl ?_
        refine lv_iconst (v := (1 : Int32)) E.1 E.2.1 dL_law_413 (by decide) ?_
        refine lv_iadd E.1 E.2.1 dL_law_414 ?_
        refine w_sc E S hX hM dL_law_415 (fun v415 hM => ?_)
        refine w_aload_n E hl 0 dL_law_416 rfl ?_
        refine w_iload_n E hl 3 dL_law_417 rfl ?_
        refine lv_iconst (v := (2 : Int32)) E.1 E.2.1 dL_law_418 (by decide) ?_
        refine lv_iadd E.1 E.2.1 dL_law_419 ?_
        refine w_sc E S hX hM dL_law_420 (fun v420 hM => ?_)
        refine w_cVi (rest := []) E S hl hM (kX8_pay l s.heap.size D dA F y1 v415 v420) mcX8_pay ⟨by decide, rfl, wd_460, wd_461, wd_462⟩ hfr hlo (by decide) rfl (Nat.le_of_ble_eq_true rfl) dL_law_421 rfl (fun v421 σ H locs S hM => ?_)
        refine w_aload_n E hl 2 dL_law_424 rfl ?_
        refine w_aload_n E hl 0 dL_law_425 rfl ?_
        refine w_iload_n E hl 3 dL_law_426 rfl ?_
        refine lv_iconst (v := (1 : Int32)) E.1 E.2.1 dL_law_427 (by decide) ?_
        refine lv_iadd E.1 E.2.1 dL_law_428 ?_
        refine w_sc E S hX hM dL_law_429 (fun v429 hM => ?_)
        refine w_aload_n E hl 0 dL_law_430 rfl ?_
        refine w_iload_n E hl 3 dL_law_431 rfl ?_
        refine lv_iconst (v := (2 : Int32)) E.1 E.2.1 dL_law_432 (by decide) ?_
        refine lv_iadd E.1 E.2.1 dL_law_433 ?_
        refine w_sc E S hX hM dL_law_434 (fun v434 hM => ?_)
        refine w_cVi (rest := [.int v421]) E S hl hM (kX9_pay l s.heap.size D dA F y2 v429 v434) mcX9_pay ⟨by decide, rfl, wd_834, wd_835, wd_836⟩ hfr hlo (by decide) rfl (Nat.le_of_ble_eq_true rfl) dL_law_435 rfl (fun v435 σ H locs S hM => ?_)
        refine lv_icmp_eq (tgt := 707) E.1 E.2.1 dL_law_438 (by decide) (fun c438 => ?_) (fun c438 => ?_)
        · replace hM := x_okT hM c438
          refine w_iincN (ltf := fun v707 => [(3, .inl v707), (0, .inr (.inl (some b))), (1, .inr (.inl y1)), (2, .inr (.inl y2))]) E hl 3 hM dL_law_707 rfl (by decide) (by decide) (fun _ => rfl) (fun v707 ls hM hl => ?_)
          refine lv_goto (tgt := 18) E.1 E.2.1 dL_law_710 (by decide) ?_
          exact ih y1 y2 v707 _ _ _ _ S hM (x_lv_sub hl [1, 2, 3, 0] rfl)
        · replace hM := x_okF hM c438
          refine lv_iconst (v := (0 : Int32)) E.1 E.2.1 dL_law_441 (by decide) ?_
          exact w_lno hM
      replace hM := x_okF hM h32_8
      by_cases h32_9 : (v28 &&& (31 : Int32)) = 9
      · replace hM := x_okT hM h32_9
        refine lv_tableIn (off := 411) (tgt := 443) E.1 E.2.1 dL_law_32 (by rw [h32_9]; decide) (by rw [h32_9]; decide) (by rw [h32_9]; rfl) (by decide) ?_
        refine w_aload_n E hl 1 dL_law_443 rfl ?_
        refine w_aload_n E hl 0 dL_law_444 rfl ?_
        refine w_iload_n E hl 3 dL_law_445 rfl ?_
        refine lv_iconst (v := (1 : Int32)) E.1 E.2.1 dL_law_446 (by decide) ?_
        refine lv_iadd E.1 E.2.1 dL_law_447 ?_
        refine w_sc E S hX hM dL_law_448 (fun v448 hM => ?_)
        refine w_aload_n E hl 0 dL_law_449 rfl ?_
        refine w_iload_n E hl 3 dL_law_450 rfl ?_
        refine lv_iconst (v := (2 : Int32)) E.1 E.2.1 dL_law_451 (by decide) ?_
        refine lv_iadd E.1 E.2.1 dL_law_452 ?_
        refine w_sc E S hX hM dL_law_453 (fun v453 hM => ?_)
        refine w_aload_n E hl 0 dL_law_454 rfl ?_
        refine w_iload_n E hl 3 dL_law_455 rfl ?_
        refine lv_iconst (v := (3 : Int32)) E.1 E.2.1 dL_law_456 (by decide) ?_
        refine lv_iadd E.1 E.2.1 dL_law_457 ?_
        refine w_sc E S hX hM dL_law_458 (fun v458 hM => ?_)
        refine w_cVi (rest := []) E S hl hM (kX8_cart l s.heap.size D dA F y1 v448 v453 v458) mcX8_cart ⟨by decide, rfl, wd_471, wd_472, wd_473⟩ hfr hlo (by decide) rfl (Nat.le_of_ble_eq_true rfl) dL_law_459 rfl (fun v459 σ H locs S hM => ?_)
        refine w_aload_n E hl 2 dL_law_462 rfl ?_
        refine w_aload_n E hl 0 dL_law_463 rfl ?_
        refine w_iload_n E hl 3 dL_law_464 rfl ?_
        refine lv_iconst (v := (1 : Int32)) E.1 E.2.1 dL_law_465 (by decide) ?_
        refine lv_iadd E.1 E.2.1 dL_law_466 ?_
        refine w_sc E S hX hM dL_law_467 (fun v467 hM => ?_)
        refine w_aload_n E hl 0 dL_law_468 rfl ?_
        refine w_iload_n E hl 3 dL_law_469 rfl ?_
        refine lv_iconst (v := (2 : Int32)) E.1 E.2.1 dL_law_470 (by decide) ?_
        refine lv_iadd E.1 E.2.1 dL_law_471 ?_
        refine w_sc E S hX hM dL_law_472 (fun v472 hM => ?_)
        refine w_aload_n E hl 0 dL_law_473 rfl ?_
        refine w_iload_n E hl 3 dL_law_474 rfl ?_
        refine lv_iconst (v := (3 : Int32)) E.1 E.2.1 dL_law_475 (by decide) ?_
        refine lv_iadd E.1 E.2.1 dL_law_476 ?_
        refine w_sc E S hX hM dL_law_477 (fun v477 hM => ?_)
        refine w_cVi (rest := [.int v459]) E S hl hM (kX9_cart l s.heap.size D dA F y2 v467 v472 v477) mcX9_cart ⟨by decide, rfl, wd_838, wd_839, wd_840⟩ hfr hlo (by decide) rfl (Nat.le_of_ble_eq_true rfl) dL_law_478 rfl (fun v478 σ H locs S hM => ?_)
        refine lv_icmp_eq (tgt := 707) E.1 E.2.1 dL_law_481 (by decide) (fun c481 => ?_) (fun c481 => ?_)
        · replace hM := x_okT hM c481
          refine w_iincN (ltf := fun v707 => [(3, .inl v707), (0, .inr (.inl (some b))), (1, .inr (.inl y1)), (2, .inr (.inl y2))]) E hl 3 hM dL_law_707 rfl (by decide) (by decide) (fun _ => rfl) (fun v707 ls hM hl => ?_)
          refine lv_goto (tgt := 18) E.1 E.2.1 dL_law_710 (by decide) ?_
          exact ih y1 y2 v707 _ _ _ _ S hM (x_lv_sub hl [1, 2, 3, 0] rfl)
        · replace hM := x_okF hM c481
          refine lv_iconst (v := (0 : Int32)) E.1 E.2.1 dL_law_484 (by decide) ?_
          exact w_lno hM
      replace hM := x_okF hM h32_9
      by_cases h32_10 : (v28 &&& (31 : Int32)) = 10
      · replace hM := x_okT hM h32_10
        refine lv_tableIn (off := 454) (tgt := 486) E.1 E.2.1 dL_law_32 (by rw [h32_10]; decide) (by rw [h32_10]; decide) (by rw [h32_10]; rfl) (by decide) ?_
        refine w_aload_n E hl 1 dL_law_486 rfl ?_
        refine w_aload_n E hl 0 dL_law_487 rfl ?_
        refine w_iload_n E hl 3 dL_law_488 rfl ?_
        refine lv_iconst (v := (1 : Int32)) E.1 E.2.1 dL_law_489 (by decide) ?_
        refine lv_iadd E.1 E.2.1 dL_law_490 ?_
        refine w_sc E S hX hM dL_law_491 (fun v491 hM => ?_)
        refine w_aload_n E hl 0 dL_law_492 rfl ?_
        refine w_iload_n E hl 3 dL_law_493 rfl ?_
        refine lv_iconst (v := (2 : Int32)) E.1 E.2.1 dL_law_494 (by decide) ?_
        refine lv_iadd E.1 E.2.1 dL_law_495 ?_
        refine w_sc E S hX hM dL_law_496 (fun v496 hM => ?_)
        refine w_aload_n E hl 0 dL_law_497 rfl ?_
        refine w_iload_n E hl 3 dL_law_498 rfl ?_
        refine lv_iconst (v := (3 : Int32)) E.1 E.2.1 dL_law_499 (by decide) ?_
        refine lv_iadd E.1 E.2.1 dL_law_500 ?_
        refine w_sc E S hX hM dL_law_501 (fun v501 hM => ?_)
        refine w_cVi (rest := []) E S hl hM (kX8_garble l s.heap.size D dA F y1 v491 v496 v501) mcX8_garble ⟨by decide, rfl, wd_475, wd_476, wd_477⟩ hfr hlo (by decide) rfl (Nat.le_of_ble_eq_true rfl) dL_law_502 rfl (fun v502 σ H locs S hM => ?_)
        refine w_aload_n E hl 2 dL_law_505 rfl ?_
        refine w_aload_n E hl 0 dL_law_506 rfl ?_
        refine w_iload_n E hl 3 dL_law_507 rfl ?_
        refine lv_iconst (v := (1 : Int32)) E.1 E.2.1 dL_law_508 (by decide) ?_
        refine lv_iadd E.1 E.2.1 dL_law_509 ?_
        refine w_sc E S hX hM dL_law_510 (fun v510 hM => ?_)
        refine w_aload_n E hl 0 dL_law_511 rfl ?_
        refine w_iload_n E hl 3 dL_law_512 rfl ?_
        refine lv_iconst (v := (2 : Int32)) E.1 E.2.1 dL_law_513 (by decide) ?_
        refine lv_iadd E.1 E.2.1 dL_law_514 ?_
        refine w_sc E S hX hM dL_law_515 (fun v515 hM => ?_)
        refine w_aload_n E hl 0 dL_law_516 rfl ?_
        refine w_iload_n E hl 3 dL_law_517 rfl ?_
        refine lv_iconst (v := (3 : Int32)) E.1 E.2.1 dL_law_518 (by decide) ?_
        refine lv_iadd E.1 E.2.1 dL_law_519 ?_
        refine w_sc E S hX hM dL_law_520 (fun v520 hM => ?_)
        refine w_cVi (rest := [.int v502]) E S hl hM (kX9_garble l s.heap.size D dA F y2 v510 v515 v520) mcX9_garble ⟨by decide, rfl, wd_842, wd_843, wd_844⟩ hfr hlo (by decide) rfl (Nat.le_of_ble_eq_true rfl) dL_law_521 rfl (fun v521 σ H locs S hM => ?_)
        refine lv_icmp_eq (tgt := 707) E.1 E.2.1 dL_law_524 (by decide) (fun c524 => ?_) (fun c524 => ?_)
        · replace hM := x_okT hM c524
          refine w_iincN (ltf := fun v707 => [(3, .inl v707), (0, .inr (.inl (some b))), (1, .inr (.inl y1)), (2, .inr (.inl y2))]) E hl 3 hM dL_law_707 rfl (by decide) (by decide) (fun _ => rfl) (fun v707 ls hM hl => ?_)
          refine lv_goto (tgt := 18) E.1 E.2.1 dL_law_710 (by decide) ?_
          exact ih y1 y2 v707 _ _ _ _ S hM (x_lv_sub hl [1, 2, 3, 0] rfl)
        · replace hM := x_okF hM c524
          refine lv_iconst (v := (0 : Int32)) E.1 E.2.1 dL_law_527 (by decide) ?_
          exact w_lno hM
      replace hM := x_okF hM h32_10
      by_cases h32_11 : (v28 &&& (31 : Int32)) = 11
      · replace hM := x_okT hM h32_11
        refine lv_tableIn (off := 497) (tgt := 529) E.1 E.2.1 dL_law_32 (by rw [h32_11]; decide) (by rw [h32_11]; decide) (by rw [h32_11]; rfl) (by decide) ?_
        refine w_aload_n E hl 1 dL_law_529 rfl ?_
        refine w_aload_n E hl 0 dL_law_530 rfl ?_
        refine w_iload_n E hl 3 dL_law_531 rfl ?_
        refine lv_iconst (v := (1 : Int32)) E.1 E.2.1 dL_law_532 (by decide) ?_
        refine lv_iadd E.1 E.2.1 dL_law_533 ?_
        refine w_sc E S hX hM dL_law_534 (fun v534 hM => ?_)
        refine w_cVi (rest := []) E S hl hM (kX8_go l s.heap.size D dA F y1 v534) mcX8_go ⟨by decide, rfl, wd_491, wd_492, wd_493⟩ hfr hlo (by decide) rfl (Nat.le_of_ble_eq_true rfl) dL_law_535 rfl (fun v535 σ H locs S hM => ?_)
        refine w_aload_n E hl 2 dL_law_538 rfl ?_
        refine w_aload_n E hl 0 dL_law_539 rfl ?_
        refine w_iload_n E hl 3 dL_law_540 rfl ?_
        refine lv_iconst (v := (1 : Int32)) E.1 E.2.1 dL_law_541 (by decide) ?_
        refine lv_iadd E.1 E.2.1 dL_law_542 ?_
        refine w_sc E S hX hM dL_law_543 (fun v543 hM => ?_)
        refine w_cVi (rest := [.int v535]) E S hl hM (kX9_go l s.heap.size D dA F y2 v543) mcX9_go ⟨by decide, rfl, wd_850, wd_851, wd_852⟩ hfr hlo (by decide) rfl (Nat.le_of_ble_eq_true rfl) dL_law_544 rfl (fun v544 σ H locs S hM => ?_)
        refine lv_icmp_eq (tgt := 707) E.1 E.2.1 dL_law_547 (by decide) (fun c547 => ?_) (fun c547 => ?_)
        · replace hM := x_okT hM c547
          refine w_iincN (ltf := fun v707 => [(3, .inl v707), (0, .inr (.inl (some b))), (1, .inr (.inl y1)), (2, .inr (.inl y2))]) E hl 3 hM dL_law_707 rfl (by decide) (by decide) (fun _ => rfl) (fun v707 ls hM hl => ?_)
          refine lv_goto (tgt := 18) E.1 E.2.1 dL_law_710 (by decide) ?_
          exact ih y1 y2 v707 _ _ _ _ S hM (x_lv_sub hl [1, 2, 3, 0] rfl)
        · replace hM := x_okF hM c547
          refine lv_iconst (v := (0 : Int32)) E.1 E.2.1 dL_law_550 (by decide) ?_
          exact w_lno hM
      replace hM := x_okF hM h32_11
      by_cases h32_12 : (v28 &&& (31 : Int32)) = 12
      · replace hM := x_okT hM h32_12
        refine lv_tableIn (off := 520) (tgt := 552) E.1 E.2.1 dL_law_32 (by rw [h32_12]; decide) (by rw [h32_12]; decide) (by rw [h32_12]; rfl) (by decide) ?_
        refine w_aload_n E hl 1 dL_law_552 rfl ?_
        refine w_aload_n E hl 0 dL_law_553 rfl ?_
        refine w_iload_n E hl 3 dL_law_554 rfl ?_
        refine lv_iconst (v := (1 : Int32)) E.1 E.2.1 dL_law_555 (by decide) ?_
        refine lv_iadd E.1 E.2.1 dL_law_556 ?_
        refine w_sc E S hX hM dL_law_557 (fun v557 hM => ?_)
        refine w_aload_n E hl 0 dL_law_558 rfl ?_
        refine w_iload_n E hl 3 dL_law_559 rfl ?_
        refine lv_iconst (v := (2 : Int32)) E.1 E.2.1 dL_law_560 (by decide) ?_
        refine lv_iadd E.1 E.2.1 dL_law_561 ?_
        refine w_sc E S hX hM dL_law_562 (fun v562 hM => ?_)
        refine w_cVi (rest := []) E S hl hM (kX8_sign l s.heap.size D dA F y1 v557 v562) mcX8_sign ⟨by decide, rfl, wd_548, wd_549, wd_550⟩ hfr hlo (by decide) rfl (Nat.le_of_ble_eq_true rfl) dL_law_563 rfl (fun v563 σ H locs S hM => ?_)
        refine w_aload_n E hl 2 dL_law_566 rfl ?_
        refine w_aload_n E hl 0 dL_law_567 rfl ?_
        refine w_iload_n E hl 3 dL_law_568 rfl ?_
        refine lv_iconst (v := (1 : Int32)) E.1 E.2.1 dL_law_569 (by decide) ?_
        refine lv_iadd E.1 E.2.1 dL_law_570 ?_
        refine w_sc E S hX hM dL_law_571 (fun v571 hM => ?_)
        refine w_aload_n E hl 0 dL_law_572 rfl ?_
        refine w_iload_n E hl 3 dL_law_573 rfl ?_
        refine lv_iconst (v := (2 : Int32)) E.1 E.2.1 dL_law_574 (by decide) ?_
        refine lv_iadd E.1 E.2.1 dL_law_575 ?_
        refine w_sc E S hX hM dL_law_576 (fun v576 hM => ?_)
        refine w_cVi (rest := [.int v563]) E S hl hM (kX9_sign l s.heap.size D dA F y2 v571 v576) mcX9_sign ⟨by decide, rfl, wd_870, wd_871, wd_872⟩ hfr hlo (by decide) rfl (Nat.le_of_ble_eq_true rfl) dL_law_577 rfl (fun v577 σ H locs S hM => ?_)
        refine lv_icmp_eq (tgt := 707) E.1 E.2.1 dL_law_580 (by decide) (fun c580 => ?_) (fun c580 => ?_)
        · replace hM := x_okT hM c580
          refine w_iincN (ltf := fun v707 => [(3, .inl v707), (0, .inr (.inl (some b))), (1, .inr (.inl y1)), (2, .inr (.inl y2))]) E hl 3 hM dL_law_707 rfl (by decide) (by decide) (fun _ => rfl) (fun v707 ls hM hl => ?_)
          refine lv_goto (tgt := 18) E.1 E.2.1 dL_law_710 (by decide) ?_
          exact ih y1 y2 v707 _ _ _ _ S hM (x_lv_sub hl [1, 2, 3, 0] rfl)
        · replace hM := x_okF hM c580
          refine lv_iconst (v := (0 : Int32)) E.1 E.2.1 dL_law_583 (by decide) ?_
          exact w_lno hM
      replace hM := x_okF hM h32_12
      by_cases h32_13 : (v28 &&& (31 : Int32)) = 13
      · replace hM := x_okT hM h32_13
        refine lv_tableIn (off := 553) (tgt := 585) E.1 E.2.1 dL_law_32 (by rw [h32_13]; decide) (by rw [h32_13]; decide) (by rw [h32_13]; rfl) (by decide) ?_
        refine w_aload_n E hl 1 dL_law_585 rfl ?_
        refine w_aload_n E hl 0 dL_law_586 rfl ?_
        refine w_iload_n E hl 3 dL_law_587 rfl ?_
        refine lv_iconst (v := (1 : Int32)) E.1 E.2.1 dL_law_588 (by decide) ?_
        refine lv_iadd E.1 E.2.1 dL_law_589 ?_
        refine w_sc E S hX hM dL_law_590 (fun v590 hM => ?_)
        refine w_aload_n E hl 0 dL_law_591 rfl ?_
        refine w_iload_n E hl 3 dL_law_592 rfl ?_
        refine lv_iconst (v := (2 : Int32)) E.1 E.2.1 dL_law_593 (by decide) ?_
        refine lv_iadd E.1 E.2.1 dL_law_594 ?_
        refine w_sc E S hX hM dL_law_595 (fun v595 hM => ?_)
        refine w_cVi (rest := []) E S hl hM (kX8_message l s.heap.size D dA F y1 v590 v595) mcX8_message ⟨by decide, rfl, wd_556, wd_557, wd_558⟩ hfr hlo (by decide) rfl (Nat.le_of_ble_eq_true rfl) dL_law_596 rfl (fun v596 σ H locs S hM => ?_)
        refine w_aload_n E hl 2 dL_law_599 rfl ?_
        refine w_aload_n E hl 0 dL_law_600 rfl ?_
        refine w_iload_n E hl 3 dL_law_601 rfl ?_
        refine lv_iconst (v := (1 : Int32)) E.1 E.2.1 dL_law_602 (by decide) ?_
        refine lv_iadd E.1 E.2.1 dL_law_603 ?_
        refine w_sc E S hX hM dL_law_604 (fun v604 hM => ?_)
        refine w_aload_n E hl 0 dL_law_605 rfl ?_
        refine w_iload_n E hl 3 dL_law_606 rfl ?_
        refine lv_iconst (v := (2 : Int32)) E.1 E.2.1 dL_law_607 (by decide) ?_
        refine lv_iadd E.1 E.2.1 dL_law_608 ?_
        refine w_sc E S hX hM dL_law_609 (fun v609 hM => ?_)
        refine w_cVi (rest := [.int v596]) E S hl hM (kX9_message l s.heap.size D dA F y2 v604 v609) mcX9_message ⟨by decide, rfl, wd_874, wd_875, wd_876⟩ hfr hlo (by decide) rfl (Nat.le_of_ble_eq_true rfl) dL_law_610 rfl (fun v610 σ H locs S hM => ?_)
        refine lv_icmp_eq (tgt := 707) E.1 E.2.1 dL_law_613 (by decide) (fun c613 => ?_) (fun c613 => ?_)
        · replace hM := x_okT hM c613
          refine w_iincN (ltf := fun v707 => [(3, .inl v707), (0, .inr (.inl (some b))), (1, .inr (.inl y1)), (2, .inr (.inl y2))]) E hl 3 hM dL_law_707 rfl (by decide) (by decide) (fun _ => rfl) (fun v707 ls hM hl => ?_)
          refine lv_goto (tgt := 18) E.1 E.2.1 dL_law_710 (by decide) ?_
          exact ih y1 y2 v707 _ _ _ _ S hM (x_lv_sub hl [1, 2, 3, 0] rfl)
        · replace hM := x_okF hM c613
          refine lv_iconst (v := (0 : Int32)) E.1 E.2.1 dL_law_616 (by decide) ?_
          exact w_lno hM
      replace hM := x_okF hM h32_13
      by_cases h32_14 : (v28 &&& (31 : Int32)) = 14
      · replace hM := x_okT hM h32_14
        refine lv_tableIn (off := 586) (tgt := 618) E.1 E.2.1 dL_law_32 (by rw [h32_14]; decide) (by rw [h32_14]; decide) (by rw [h32_14]; rfl) (by decide) ?_
        refine w_aload_n E hl 1 dL_law_618 rfl ?_
        refine w_aload_n E hl 0 dL_law_619 rfl ?_
        refine w_iload_n E hl 3 dL_law_620 rfl ?_
        refine lv_iconst (v := (1 : Int32)) E.1 E.2.1 dL_law_621 (by decide) ?_
        refine lv_iadd E.1 E.2.1 dL_law_622 ?_
        refine w_sc E S hX hM dL_law_623 (fun v623 hM => ?_)
        refine w_aload_n E hl 0 dL_law_624 rfl ?_
        refine w_iload_n E hl 3 dL_law_625 rfl ?_
        refine lv_iconst (v := (2 : Int32)) E.1 E.2.1 dL_law_626 (by decide) ?_
        refine lv_iadd E.1 E.2.1 dL_law_627 ?_
        refine w_sc E S hX hM dL_law_628 (fun v628 hM => ?_)
        refine w_cVi (rest := []) E S hl hM (kX8_told l s.heap.size D dA F y1 v623 v628) mcX8_told ⟨by decide, rfl, wd_563, wd_564, wd_565⟩ hfr hlo (by decide) rfl (Nat.le_of_ble_eq_true rfl) dL_law_629 rfl (fun v629 σ H locs S hM => ?_)
        refine w_aload_n E hl 2 dL_law_632 rfl ?_
        refine w_aload_n E hl 0 dL_law_633 rfl ?_
        refine w_iload_n E hl 3 dL_law_634 rfl ?_
        refine lv_iconst (v := (1 : Int32)) E.1 E.2.1 dL_law_635 (by decide) ?_
        refine lv_iadd E.1 E.2.1 dL_law_636 ?_
        refine w_sc E S hX hM dL_law_637 (fun v637 hM => ?_)
        refine w_aload_n E hl 0 dL_law_638 rfl ?_
        refine w_iload_n E hl 3 dL_law_639 rfl ?_
        refine lv_iconst (v := (2 : Int32)) E.1 E.2.1 dL_law_640 (by decide) ?_
        refine lv_iadd E.1 E.2.1 dL_law_641 ?_
        refine w_sc E S hX hM dL_law_642 (fun v642 hM => ?_)
        refine w_cVi (rest := [.int v629]) E S hl hM (kX9_told l s.heap.size D dA F y2 v637 v642) mcX9_told ⟨by decide, rfl, wd_878, wd_879, wd_880⟩ hfr hlo (by decide) rfl (Nat.le_of_ble_eq_true rfl) dL_law_643 rfl (fun v643 σ H locs S hM => ?_)
        refine lv_icmp_eq (tgt := 707) E.1 E.2.1 dL_law_646 (by decide) (fun c646 => ?_) (fun c646 => ?_)
        · replace hM := x_okT hM c646
          refine w_iincN (ltf := fun v707 => [(3, .inl v707), (0, .inr (.inl (some b))), (1, .inr (.inl y1)), (2, .inr (.inl y2))]) E hl 3 hM dL_law_707 rfl (by decide) (by decide) (fun _ => rfl) (fun v707 ls hM hl => ?_)
          refine lv_goto (tgt := 18) E.1 E.2.1 dL_law_710 (by decide) ?_
          exact ih y1 y2 v707 _ _ _ _ S hM (x_lv_sub hl [1, 2, 3, 0] rfl)
        · replace hM := x_okF hM c646
          refine lv_iconst (v := (0 : Int32)) E.1 E.2.1 dL_law_649 (by decide) ?_
          exact w_lno hM
      replace hM := x_okF hM h32_14
      by_cases h32_15 : (v28 &&& (31 : Int32)) = 15
      · replace hM := x_okT hM h32_15
        refine lv_tableIn (off := 619) (tgt := 651) E.1 E.2.1 dL_law_32 (by rw [h32_15]; decide) (by rw [h32_15]; decide) (by rw [h32_15]; rfl) (by decide) ?_
        refine w_aload_n E hl 1 dL_law_651 rfl ?_
        refine w_aload_n E hl 0 dL_law_652 rfl ?_
        refine w_iload_n E hl 3 dL_law_653 rfl ?_
        refine lv_iconst (v := (1 : Int32)) E.1 E.2.1 dL_law_654 (by decide) ?_
        refine lv_iadd E.1 E.2.1 dL_law_655 ?_
        refine w_sc E S hX hM dL_law_656 (fun v656 hM => ?_)
        refine w_aload_n E hl 0 dL_law_657 rfl ?_
        refine w_iload_n E hl 3 dL_law_658 rfl ?_
        refine lv_iconst (v := (2 : Int32)) E.1 E.2.1 dL_law_659 (by decide) ?_
        refine lv_iadd E.1 E.2.1 dL_law_660 ?_
        refine w_sc E S hX hM dL_law_661 (fun v661 hM => ?_)
        refine w_cVi (rest := []) E S hl hM (kX8_at l s.heap.size D dA F y1 v656 v661) mcX8_at ⟨by decide, rfl, wd_567, wd_568, wd_569⟩ hfr hlo (by decide) rfl (Nat.le_of_ble_eq_true rfl) dL_law_662 rfl (fun v662 σ H locs S hM => ?_)
        refine w_aload_n E hl 2 dL_law_665 rfl ?_
        refine w_aload_n E hl 0 dL_law_666 rfl ?_
        refine w_iload_n E hl 3 dL_law_667 rfl ?_
        refine lv_iconst (v := (1 : Int32)) E.1 E.2.1 dL_law_668 (by decide) ?_
        refine lv_iadd E.1 E.2.1 dL_law_669 ?_
        refine w_sc E S hX hM dL_law_670 (fun v670 hM => ?_)
        refine w_aload_n E hl 0 dL_law_671 rfl ?_
        refine w_iload_n E hl 3 dL_law_672 rfl ?_
        refine lv_iconst (v := (2 : Int32)) E.1 E.2.1 dL_law_673 (by decide) ?_
        refine lv_iadd E.1 E.2.1 dL_law_674 ?_
        refine w_sc E S hX hM dL_law_675 (fun v675 hM => ?_)
        refine w_cVi (rest := [.int v662]) E S hl hM (kX9_at l s.heap.size D dA F y2 v670 v675) mcX9_at ⟨by decide, rfl, wd_882, wd_883, wd_884⟩ hfr hlo (by decide) rfl (Nat.le_of_ble_eq_true rfl) dL_law_676 rfl (fun v676 σ H locs S hM => ?_)
        refine lv_icmp_eq (tgt := 707) E.1 E.2.1 dL_law_679 (by decide) (fun c679 => ?_) (fun c679 => ?_)
        · replace hM := x_okT hM c679
          refine w_iincN (ltf := fun v707 => [(3, .inl v707), (0, .inr (.inl (some b))), (1, .inr (.inl y1)), (2, .inr (.inl y2))]) E hl 3 hM dL_law_707 rfl (by decide) (by decide) (fun _ => rfl) (fun v707 ls hM hl => ?_)
          refine lv_goto (tgt := 18) E.1 E.2.1 dL_law_710 (by decide) ?_
          exact ih y1 y2 v707 _ _ _ _ S hM (x_lv_sub hl [1, 2, 3, 0] rfl)
        · replace hM := x_okF hM c679
          refine lv_iconst (v := (0 : Int32)) E.1 E.2.1 dL_law_682 (by decide) ?_
          exact w_lno hM
      replace hM := x_okF hM h32_15
      by_cases h32_16 : (v28 &&& (31 : Int32)) = 16
      · replace hM := x_okT hM h32_16
        refine lv_tableIn (off := 652) (tgt := 684) E.1 E.2.1 dL_law_32 (by rw [h32_16]; decide) (by rw [h32_16]; decide) (by rw [h32_16]; rfl) (by decide) ?_
        refine w_aload_n E hl 1 dL_law_684 rfl ?_
        refine w_aload_n E hl 0 dL_law_685 rfl ?_
        refine w_iload_n E hl 3 dL_law_686 rfl ?_
        refine lv_iconst (v := (1 : Int32)) E.1 E.2.1 dL_law_687 (by decide) ?_
        refine lv_iadd E.1 E.2.1 dL_law_688 ?_
        refine w_sc E S hX hM dL_law_689 (fun v689 hM => ?_)
        refine w_cVi (rest := []) E S hl hM (kX8_count l s.heap.size D dA F y1 v689) mcX8_count ⟨by decide, rfl, wd_591, wd_592, wd_593⟩ hfr hlo (by decide) rfl (Nat.le_of_ble_eq_true rfl) dL_law_690 rfl (fun v690 σ H locs S hM => ?_)
        refine w_aload_n E hl 2 dL_law_693 rfl ?_
        refine w_aload_n E hl 0 dL_law_694 rfl ?_
        refine w_iload_n E hl 3 dL_law_695 rfl ?_
        refine lv_iconst (v := (1 : Int32)) E.1 E.2.1 dL_law_696 (by decide) ?_
        refine lv_iadd E.1 E.2.1 dL_law_697 ?_
        refine w_sc E S hX hM dL_law_698 (fun v698 hM => ?_)
        refine w_cVi (rest := [.int v690]) E S hl hM (kX9_count l s.heap.size D dA F y2 v698) mcX9_count ⟨by decide, rfl, wd_891, wd_892, wd_893⟩ hfr hlo (by decide) rfl (Nat.le_of_ble_eq_true rfl) dL_law_699 rfl (fun v699 σ H locs S hM => ?_)
        refine lv_icmp_eq (tgt := 707) E.1 E.2.1 dL_law_702 (by decide) (fun c702 => ?_) (fun c702 => ?_)
        · replace hM := x_okT hM c702
          refine w_iincN (ltf := fun v707 => [(3, .inl v707), (0, .inr (.inl (some b))), (1, .inr (.inl y1)), (2, .inr (.inl y2))]) E hl 3 hM dL_law_707 rfl (by decide) (by decide) (fun _ => rfl) (fun v707 ls hM hl => ?_)
          refine lv_goto (tgt := 18) E.1 E.2.1 dL_law_710 (by decide) ?_
          exact ih y1 y2 v707 _ _ _ _ S hM (x_lv_sub hl [1, 2, 3, 0] rfl)
        · replace hM := x_okF hM c702
          refine lv_iconst (v := (0 : Int32)) E.1 E.2.1 dL_law_705 (by decide) ?_
          exact w_lno hM
      replace hM := x_okF hM h32_16
      have n32_0 := lv_neT (a := 0) h32_0 (by decide)
      have n32_1 := lv_neT (a := 1) h32_1 (by decide)
      have n32_2 := lv_neT (a := 2) h32_2 (by decide)
      have n32_3 := lv_neT (a := 3) h32_3 (by decide)
      have n32_4 := lv_neT (a := 4) h32_4 (by decide)
      have n32_5 := lv_neT (a := 5) h32_5 (by decide)
      have n32_6 := lv_neT (a := 6) h32_6 (by decide)
      have n32_7 := lv_neT (a := 7) h32_7 (by decide)
      have n32_8 := lv_neT (a := 8) h32_8 (by decide)
      have n32_9 := lv_neT (a := 9) h32_9 (by decide)
      have n32_10 := lv_neT (a := 10) h32_10 (by decide)
      have n32_11 := lv_neT (a := 11) h32_11 (by decide)
      have n32_12 := lv_neT (a := 12) h32_12 (by decide)
      have n32_13 := lv_neT (a := 13) h32_13 (by decide)
      have n32_14 := lv_neT (a := 14) h32_14 (by decide)
      have n32_15 := lv_neT (a := 15) h32_15 (by decide)
      have n32_16 := lv_neT (a := 16) h32_16 (by decide)
      refine lv_tableOut (tgt := 707) E.1 E.2.1 dL_law_32 (by omega) (by decide) ?_
      refine w_iincN (ltf := fun v707 => [(3, .inl v707), (0, .inr (.inl (some b))), (1, .inr (.inl y1)), (2, .inr (.inl y2))]) E hl 3 hM dL_law_707 rfl (by decide) (by decide) (fun _ => rfl) (fun v707 ls hM hl => ?_)
      refine lv_goto (tgt := 18) E.1 E.2.1 dL_law_710 (by decide) ?_
      exact ih y1 y2 v707 _ _ _ _ S hM (x_lv_sub hl [1, 2, 3, 0] rfl)
set_option maxHeartbeats 4000000 in
set_option maxRecDepth 100000 in
theorem kL_law {p : Program} {l : Launch} {e : Env} {s : State} {m : MethodId} {below : List Frame} {meth : Method} {c : Code} {D : va_G} {dA : Nat → ClassId} {τ : PH} {b L : Nat} {xs : Nat → Int32} {F : Nat} (E : x_E p s m #[Value.ref b] c cL_law 4 "WireMoneyLaw" D dA) (hX : va_X b L xs s s.heap ∧ b < s.heap.size ∧ b < s.heap.size) (hr : meth.sig.returnType = ret) (hk : meth.locks = false) (hfr : room_1.frames = 9) (hlo : room_1.locals = 324) : ∀ (σ : PH) (ls : Array Slot), x_S s.heap.size D dA room_1 s σ τ σ s.heap [] → x_rn (mL_law F L xs) σ = some (1, τ) → x_lv ls 4 [(0, .inr (.inl (some b)))] → W p l e room_1 s m #[Value.ref b] below meth c s.heap [] (x_N σ - x_N σ) (x_U σ - x_U σ) (lw_Z below #[Value.ref b] s) (F0 m 0 ls []) := by
  intro σ ls S hM hl
  unfold mL_law at hM
  refine w_new E S hM ⟨by decide, wd_12⟩ dL_law_0 (fun v0 σ H S hM => ?_)
  refine lv_dup E.1 E.2.1 dL_law_3 (x_cat _) ?_
  refine w_cI (rest := [va_rf (some v0)]) E S hl hM (kX8_init l s.heap.size D dA F v0) mcX8_init ⟨wd_14, wd_15, rfl⟩ (by rw [hfr, hlo]; decide) rfl (Nat.le_of_ble_eq_true rfl) dL_law_4 rfl (fun σ H locs S hM => ?_)
  refine w_astore_n (lt' := [(1, .inr (.inl (some v0))), (0, .inr (.inl (some b)))]) E hl dL_law_7 (by decide) rfl (fun ls hl => ?_)
  refine w_new E S hM ⟨by decide, wd_595⟩ dL_law_8 (fun v8 σ H S hM => ?_)
  refine lv_dup E.1 E.2.1 dL_law_11 (x_cat _) ?_
  refine w_cI (rest := [va_rf (some v8)]) E S hl hM (kX9_init l s.heap.size D dA F v8) mcX9_init ⟨wd_597, wd_598, rfl⟩ (by rw [hfr, hlo]; decide) rfl (Nat.le_of_ble_eq_true rfl) dL_law_12 rfl (fun σ H locs S hM => ?_)
  refine w_astore_n (lt' := [(2, .inr (.inl (some v8))), (1, .inr (.inl (some v0))), (0, .inr (.inl (some b)))]) E hl dL_law_15 (by decide) rfl (fun ls hl => ?_)
  refine lv_iconst (v := (0 : Int32)) E.1 E.2.1 dL_law_16 (by decide) ?_
  refine w_istore_n (lt' := [(3, .inl (0 : Int32)), (2, .inr (.inl (some v8))), (1, .inr (.inl (some v0))), (0, .inr (.inl (some b)))]) E hl dL_law_17 (by decide) rfl (fun ls hl => ?_)
  exact bL_law_18 E hX hr hk hfr hlo F (some v0) (some v8) (0 : Int32) _ _ _ _ S hM (x_lv_sub hl [3, 2, 1, 0] rfl)
