/-! the law: decoding (printed by gen70.py) -/
set_option maxRecDepth 100000 in
theorem dl_0 : decode code 0 = .ok (.new 7, 3) := by decide +kernel
set_option maxRecDepth 100000 in
theorem dl_3 : decode code 3 = .ok (.dup, 1) := by decide +kernel
set_option maxRecDepth 100000 in
theorem dl_4 : decode code 4 = .ok (.invokespecial 9, 3) := by decide +kernel
set_option maxRecDepth 100000 in
theorem dl_7 : decode code 7 = .ok (.astore_n 1, 1) := by decide +kernel
set_option maxRecDepth 100000 in
theorem dl_8 : decode code 8 = .ok (.new 10, 3) := by decide +kernel
set_option maxRecDepth 100000 in
theorem dl_11 : decode code 11 = .ok (.dup, 1) := by decide +kernel
set_option maxRecDepth 100000 in
theorem dl_12 : decode code 12 = .ok (.invokespecial 12, 3) := by decide +kernel
set_option maxRecDepth 100000 in
theorem dl_15 : decode code 15 = .ok (.astore_n 2, 1) := by decide +kernel
set_option maxRecDepth 100000 in
theorem dl_16 : decode code 16 = .ok (.iconst 0, 1) := by decide +kernel
set_option maxRecDepth 100000 in
theorem dl_17 : decode code 17 = .ok (.istore_n 3, 1) := by decide +kernel
set_option maxRecDepth 100000 in
theorem dl_18 : decode code 18 = .ok (.iload_n 3, 1) := by decide +kernel
set_option maxRecDepth 100000 in
theorem dl_19 : decode code 19 = .ok (.aload_n 0, 1) := by decide +kernel
set_option maxRecDepth 100000 in
theorem dl_20 : decode code 20 = .ok (.arraylength, 1) := by decide +kernel
set_option maxRecDepth 100000 in
theorem dl_21 : decode code 21 = .ok (.iconst 4, 1) := by decide +kernel
set_option maxRecDepth 100000 in
theorem dl_22 : decode code 22 = .ok (.isub, 1) := by decide +kernel
set_option maxRecDepth 100000 in
theorem dl_23 : decode code 23 = .ok (.if_icmp .gt 614, 3) := by decide +kernel
set_option maxRecDepth 100000 in
theorem dl_26 : decode code 26 = .ok (.aload_n 0, 1) := by decide +kernel
set_option maxRecDepth 100000 in
theorem dl_27 : decode code 27 = .ok (.iload_n 3, 1) := by decide +kernel
set_option maxRecDepth 100000 in
theorem dl_28 : decode code 28 = .ok (.iaload, 1) := by decide +kernel
set_option maxRecDepth 100000 in
theorem dl_29 : decode code 29 = .ok (.bipush 31, 2) := by decide +kernel
set_option maxRecDepth 100000 in
theorem dl_31 : decode code 31 = .ok (.iand, 1) := by decide +kernel
set_option maxRecDepth 100000 in
theorem dl_32 : decode code 32 = .ok (.tableswitch 599 0 18 #[92, 115, 128, 141, 174, 207, 230, 263, 296, 309, 342, 385, 418, 451, 464, 487, 530, 553, 576], 92) := by decide +kernel
set_option maxRecDepth 100000 in
theorem dl_124 : decode code 124 = .ok (.aload_n 1, 1) := by decide +kernel
set_option maxRecDepth 100000 in
theorem dl_125 : decode code 125 = .ok (.aload_n 0, 1) := by decide +kernel
set_option maxRecDepth 100000 in
theorem dl_126 : decode code 126 = .ok (.iload_n 3, 1) := by decide +kernel
set_option maxRecDepth 100000 in
theorem dl_127 : decode code 127 = .ok (.iconst 1, 1) := by decide +kernel
set_option maxRecDepth 100000 in
theorem dl_128 : decode code 128 = .ok (.iadd, 1) := by decide +kernel
set_option maxRecDepth 100000 in
theorem dl_129 : decode code 129 = .ok (.iaload, 1) := by decide +kernel
set_option maxRecDepth 100000 in
theorem dl_130 : decode code 130 = .ok (.invokevirtual 13, 3) := by decide +kernel
set_option maxRecDepth 100000 in
theorem dl_133 : decode code 133 = .ok (.aload_n 2, 1) := by decide +kernel
set_option maxRecDepth 100000 in
theorem dl_134 : decode code 134 = .ok (.aload_n 0, 1) := by decide +kernel
set_option maxRecDepth 100000 in
theorem dl_135 : decode code 135 = .ok (.iload_n 3, 1) := by decide +kernel
set_option maxRecDepth 100000 in
theorem dl_136 : decode code 136 = .ok (.iconst 1, 1) := by decide +kernel
set_option maxRecDepth 100000 in
theorem dl_137 : decode code 137 = .ok (.iadd, 1) := by decide +kernel
set_option maxRecDepth 100000 in
theorem dl_138 : decode code 138 = .ok (.iaload, 1) := by decide +kernel
set_option maxRecDepth 100000 in
theorem dl_139 : decode code 139 = .ok (.invokevirtual 17, 3) := by decide +kernel
set_option maxRecDepth 100000 in
theorem dl_142 : decode code 142 = .ok (.if_icmp .eq 489, 3) := by decide +kernel
set_option maxRecDepth 100000 in
theorem dl_145 : decode code 145 = .ok (.iconst 0, 1) := by decide +kernel
set_option maxRecDepth 100000 in
theorem dl_146 : decode code 146 = .ok (.ireturn, 1) := by decide +kernel
set_option maxRecDepth 100000 in
theorem dl_147 : decode code 147 = .ok (.aload_n 1, 1) := by decide +kernel
set_option maxRecDepth 100000 in
theorem dl_148 : decode code 148 = .ok (.invokevirtual 18, 3) := by decide +kernel
set_option maxRecDepth 100000 in
theorem dl_151 : decode code 151 = .ok (.aload_n 2, 1) := by decide +kernel
set_option maxRecDepth 100000 in
theorem dl_152 : decode code 152 = .ok (.invokevirtual 22, 3) := by decide +kernel
set_option maxRecDepth 100000 in
theorem dl_155 : decode code 155 = .ok (.if_icmp .eq 476, 3) := by decide +kernel
set_option maxRecDepth 100000 in
theorem dl_158 : decode code 158 = .ok (.iconst 0, 1) := by decide +kernel
set_option maxRecDepth 100000 in
theorem dl_159 : decode code 159 = .ok (.ireturn, 1) := by decide +kernel
set_option maxRecDepth 100000 in
theorem dl_160 : decode code 160 = .ok (.aload_n 1, 1) := by decide +kernel
set_option maxRecDepth 100000 in
theorem dl_161 : decode code 161 = .ok (.invokevirtual 23, 3) := by decide +kernel
set_option maxRecDepth 100000 in
theorem dl_164 : decode code 164 = .ok (.aload_n 2, 1) := by decide +kernel
set_option maxRecDepth 100000 in
theorem dl_165 : decode code 165 = .ok (.invokevirtual 26, 3) := by decide +kernel
set_option maxRecDepth 100000 in
theorem dl_168 : decode code 168 = .ok (.if_icmp .eq 463, 3) := by decide +kernel
set_option maxRecDepth 100000 in
theorem dl_171 : decode code 171 = .ok (.iconst 0, 1) := by decide +kernel
set_option maxRecDepth 100000 in
theorem dl_172 : decode code 172 = .ok (.ireturn, 1) := by decide +kernel
set_option maxRecDepth 100000 in
theorem dl_173 : decode code 173 = .ok (.aload_n 1, 1) := by decide +kernel
set_option maxRecDepth 100000 in
theorem dl_174 : decode code 174 = .ok (.aload_n 0, 1) := by decide +kernel
set_option maxRecDepth 100000 in
theorem dl_175 : decode code 175 = .ok (.iload_n 3, 1) := by decide +kernel
set_option maxRecDepth 100000 in
theorem dl_176 : decode code 176 = .ok (.iconst 1, 1) := by decide +kernel
set_option maxRecDepth 100000 in
theorem dl_177 : decode code 177 = .ok (.iadd, 1) := by decide +kernel
set_option maxRecDepth 100000 in
theorem dl_178 : decode code 178 = .ok (.iaload, 1) := by decide +kernel
set_option maxRecDepth 100000 in
theorem dl_179 : decode code 179 = .ok (.aload_n 0, 1) := by decide +kernel
set_option maxRecDepth 100000 in
theorem dl_180 : decode code 180 = .ok (.iload_n 3, 1) := by decide +kernel
set_option maxRecDepth 100000 in
theorem dl_181 : decode code 181 = .ok (.iconst 2, 1) := by decide +kernel
set_option maxRecDepth 100000 in
theorem dl_182 : decode code 182 = .ok (.iadd, 1) := by decide +kernel
set_option maxRecDepth 100000 in
theorem dl_183 : decode code 183 = .ok (.iaload, 1) := by decide +kernel
set_option maxRecDepth 100000 in
theorem dl_184 : decode code 184 = .ok (.invokevirtual 27, 3) := by decide +kernel
set_option maxRecDepth 100000 in
theorem dl_187 : decode code 187 = .ok (.aload_n 2, 1) := by decide +kernel
set_option maxRecDepth 100000 in
theorem dl_188 : decode code 188 = .ok (.aload_n 0, 1) := by decide +kernel
set_option maxRecDepth 100000 in
theorem dl_189 : decode code 189 = .ok (.iload_n 3, 1) := by decide +kernel
set_option maxRecDepth 100000 in
theorem dl_190 : decode code 190 = .ok (.iconst 1, 1) := by decide +kernel
set_option maxRecDepth 100000 in
theorem dl_191 : decode code 191 = .ok (.iadd, 1) := by decide +kernel
set_option maxRecDepth 100000 in
theorem dl_192 : decode code 192 = .ok (.iaload, 1) := by decide +kernel
set_option maxRecDepth 100000 in
theorem dl_193 : decode code 193 = .ok (.aload_n 0, 1) := by decide +kernel
set_option maxRecDepth 100000 in
theorem dl_194 : decode code 194 = .ok (.iload_n 3, 1) := by decide +kernel
set_option maxRecDepth 100000 in
theorem dl_195 : decode code 195 = .ok (.iconst 2, 1) := by decide +kernel
set_option maxRecDepth 100000 in
theorem dl_196 : decode code 196 = .ok (.iadd, 1) := by decide +kernel
set_option maxRecDepth 100000 in
theorem dl_197 : decode code 197 = .ok (.iaload, 1) := by decide +kernel
set_option maxRecDepth 100000 in
theorem dl_198 : decode code 198 = .ok (.invokevirtual 31, 3) := by decide +kernel
set_option maxRecDepth 100000 in
theorem dl_201 : decode code 201 = .ok (.if_icmp .eq 430, 3) := by decide +kernel
set_option maxRecDepth 100000 in
theorem dl_204 : decode code 204 = .ok (.iconst 0, 1) := by decide +kernel
set_option maxRecDepth 100000 in
theorem dl_205 : decode code 205 = .ok (.ireturn, 1) := by decide +kernel
set_option maxRecDepth 100000 in
theorem dl_206 : decode code 206 = .ok (.aload_n 1, 1) := by decide +kernel
set_option maxRecDepth 100000 in
theorem dl_207 : decode code 207 = .ok (.aload_n 0, 1) := by decide +kernel
set_option maxRecDepth 100000 in
theorem dl_208 : decode code 208 = .ok (.iload_n 3, 1) := by decide +kernel
set_option maxRecDepth 100000 in
theorem dl_209 : decode code 209 = .ok (.iconst 1, 1) := by decide +kernel
set_option maxRecDepth 100000 in
theorem dl_210 : decode code 210 = .ok (.iadd, 1) := by decide +kernel
set_option maxRecDepth 100000 in
theorem dl_211 : decode code 211 = .ok (.iaload, 1) := by decide +kernel
set_option maxRecDepth 100000 in
theorem dl_212 : decode code 212 = .ok (.aload_n 0, 1) := by decide +kernel
set_option maxRecDepth 100000 in
theorem dl_213 : decode code 213 = .ok (.iload_n 3, 1) := by decide +kernel
set_option maxRecDepth 100000 in
theorem dl_214 : decode code 214 = .ok (.iconst 2, 1) := by decide +kernel
set_option maxRecDepth 100000 in
theorem dl_215 : decode code 215 = .ok (.iadd, 1) := by decide +kernel
set_option maxRecDepth 100000 in
theorem dl_216 : decode code 216 = .ok (.iaload, 1) := by decide +kernel
set_option maxRecDepth 100000 in
theorem dl_217 : decode code 217 = .ok (.invokevirtual 32, 3) := by decide +kernel
set_option maxRecDepth 100000 in
theorem dl_220 : decode code 220 = .ok (.aload_n 2, 1) := by decide +kernel
set_option maxRecDepth 100000 in
theorem dl_221 : decode code 221 = .ok (.aload_n 0, 1) := by decide +kernel
set_option maxRecDepth 100000 in
theorem dl_222 : decode code 222 = .ok (.iload_n 3, 1) := by decide +kernel
set_option maxRecDepth 100000 in
theorem dl_223 : decode code 223 = .ok (.iconst 1, 1) := by decide +kernel
set_option maxRecDepth 100000 in
theorem dl_224 : decode code 224 = .ok (.iadd, 1) := by decide +kernel
set_option maxRecDepth 100000 in
theorem dl_225 : decode code 225 = .ok (.iaload, 1) := by decide +kernel
set_option maxRecDepth 100000 in
theorem dl_226 : decode code 226 = .ok (.aload_n 0, 1) := by decide +kernel
set_option maxRecDepth 100000 in
theorem dl_227 : decode code 227 = .ok (.iload_n 3, 1) := by decide +kernel
set_option maxRecDepth 100000 in
theorem dl_228 : decode code 228 = .ok (.iconst 2, 1) := by decide +kernel
set_option maxRecDepth 100000 in
theorem dl_229 : decode code 229 = .ok (.iadd, 1) := by decide +kernel
set_option maxRecDepth 100000 in
theorem dl_230 : decode code 230 = .ok (.iaload, 1) := by decide +kernel
set_option maxRecDepth 100000 in
theorem dl_231 : decode code 231 = .ok (.invokevirtual 35, 3) := by decide +kernel
set_option maxRecDepth 100000 in
theorem dl_234 : decode code 234 = .ok (.if_icmp .eq 397, 3) := by decide +kernel
set_option maxRecDepth 100000 in
theorem dl_237 : decode code 237 = .ok (.iconst 0, 1) := by decide +kernel
set_option maxRecDepth 100000 in
theorem dl_238 : decode code 238 = .ok (.ireturn, 1) := by decide +kernel
set_option maxRecDepth 100000 in
theorem dl_239 : decode code 239 = .ok (.aload_n 1, 1) := by decide +kernel
set_option maxRecDepth 100000 in
theorem dl_240 : decode code 240 = .ok (.aload_n 0, 1) := by decide +kernel
set_option maxRecDepth 100000 in
theorem dl_241 : decode code 241 = .ok (.iload_n 3, 1) := by decide +kernel
set_option maxRecDepth 100000 in
theorem dl_242 : decode code 242 = .ok (.iconst 1, 1) := by decide +kernel
set_option maxRecDepth 100000 in
theorem dl_243 : decode code 243 = .ok (.iadd, 1) := by decide +kernel
set_option maxRecDepth 100000 in
theorem dl_244 : decode code 244 = .ok (.iaload, 1) := by decide +kernel
set_option maxRecDepth 100000 in
theorem dl_245 : decode code 245 = .ok (.invokevirtual 36, 3) := by decide +kernel
set_option maxRecDepth 100000 in
theorem dl_248 : decode code 248 = .ok (.aload_n 2, 1) := by decide +kernel
set_option maxRecDepth 100000 in
theorem dl_249 : decode code 249 = .ok (.aload_n 0, 1) := by decide +kernel
set_option maxRecDepth 100000 in
theorem dl_250 : decode code 250 = .ok (.iload_n 3, 1) := by decide +kernel
set_option maxRecDepth 100000 in
theorem dl_251 : decode code 251 = .ok (.iconst 1, 1) := by decide +kernel
set_option maxRecDepth 100000 in
theorem dl_252 : decode code 252 = .ok (.iadd, 1) := by decide +kernel
set_option maxRecDepth 100000 in
theorem dl_253 : decode code 253 = .ok (.iaload, 1) := by decide +kernel
set_option maxRecDepth 100000 in
theorem dl_254 : decode code 254 = .ok (.invokevirtual 39, 3) := by decide +kernel
set_option maxRecDepth 100000 in
theorem dl_257 : decode code 257 = .ok (.if_icmp .eq 374, 3) := by decide +kernel
set_option maxRecDepth 100000 in
theorem dl_260 : decode code 260 = .ok (.iconst 0, 1) := by decide +kernel
set_option maxRecDepth 100000 in
theorem dl_261 : decode code 261 = .ok (.ireturn, 1) := by decide +kernel
set_option maxRecDepth 100000 in
theorem dl_262 : decode code 262 = .ok (.aload_n 1, 1) := by decide +kernel
set_option maxRecDepth 100000 in
theorem dl_263 : decode code 263 = .ok (.aload_n 0, 1) := by decide +kernel
set_option maxRecDepth 100000 in
theorem dl_264 : decode code 264 = .ok (.iload_n 3, 1) := by decide +kernel
set_option maxRecDepth 100000 in
theorem dl_265 : decode code 265 = .ok (.iconst 1, 1) := by decide +kernel
set_option maxRecDepth 100000 in
theorem dl_266 : decode code 266 = .ok (.iadd, 1) := by decide +kernel
set_option maxRecDepth 100000 in
theorem dl_267 : decode code 267 = .ok (.iaload, 1) := by decide +kernel
set_option maxRecDepth 100000 in
theorem dl_268 : decode code 268 = .ok (.aload_n 0, 1) := by decide +kernel
set_option maxRecDepth 100000 in
theorem dl_269 : decode code 269 = .ok (.iload_n 3, 1) := by decide +kernel
set_option maxRecDepth 100000 in
theorem dl_270 : decode code 270 = .ok (.iconst 2, 1) := by decide +kernel
set_option maxRecDepth 100000 in
theorem dl_271 : decode code 271 = .ok (.iadd, 1) := by decide +kernel
set_option maxRecDepth 100000 in
theorem dl_272 : decode code 272 = .ok (.iaload, 1) := by decide +kernel
set_option maxRecDepth 100000 in
theorem dl_273 : decode code 273 = .ok (.invokevirtual 40, 3) := by decide +kernel
set_option maxRecDepth 100000 in
theorem dl_276 : decode code 276 = .ok (.aload_n 2, 1) := by decide +kernel
set_option maxRecDepth 100000 in
theorem dl_277 : decode code 277 = .ok (.aload_n 0, 1) := by decide +kernel
set_option maxRecDepth 100000 in
theorem dl_278 : decode code 278 = .ok (.iload_n 3, 1) := by decide +kernel
set_option maxRecDepth 100000 in
theorem dl_279 : decode code 279 = .ok (.iconst 1, 1) := by decide +kernel
set_option maxRecDepth 100000 in
theorem dl_280 : decode code 280 = .ok (.iadd, 1) := by decide +kernel
set_option maxRecDepth 100000 in
theorem dl_281 : decode code 281 = .ok (.iaload, 1) := by decide +kernel
set_option maxRecDepth 100000 in
theorem dl_282 : decode code 282 = .ok (.aload_n 0, 1) := by decide +kernel
set_option maxRecDepth 100000 in
theorem dl_283 : decode code 283 = .ok (.iload_n 3, 1) := by decide +kernel
set_option maxRecDepth 100000 in
theorem dl_284 : decode code 284 = .ok (.iconst 2, 1) := by decide +kernel
set_option maxRecDepth 100000 in
theorem dl_285 : decode code 285 = .ok (.iadd, 1) := by decide +kernel
set_option maxRecDepth 100000 in
theorem dl_286 : decode code 286 = .ok (.iaload, 1) := by decide +kernel
set_option maxRecDepth 100000 in
theorem dl_287 : decode code 287 = .ok (.invokevirtual 43, 3) := by decide +kernel
set_option maxRecDepth 100000 in
theorem dl_290 : decode code 290 = .ok (.if_icmp .eq 341, 3) := by decide +kernel
set_option maxRecDepth 100000 in
theorem dl_293 : decode code 293 = .ok (.iconst 0, 1) := by decide +kernel
set_option maxRecDepth 100000 in
theorem dl_294 : decode code 294 = .ok (.ireturn, 1) := by decide +kernel
set_option maxRecDepth 100000 in
theorem dl_295 : decode code 295 = .ok (.aload_n 1, 1) := by decide +kernel
set_option maxRecDepth 100000 in
theorem dl_296 : decode code 296 = .ok (.aload_n 0, 1) := by decide +kernel
set_option maxRecDepth 100000 in
theorem dl_297 : decode code 297 = .ok (.iload_n 3, 1) := by decide +kernel
set_option maxRecDepth 100000 in
theorem dl_298 : decode code 298 = .ok (.iconst 1, 1) := by decide +kernel
set_option maxRecDepth 100000 in
theorem dl_299 : decode code 299 = .ok (.iadd, 1) := by decide +kernel
set_option maxRecDepth 100000 in
theorem dl_300 : decode code 300 = .ok (.iaload, 1) := by decide +kernel
set_option maxRecDepth 100000 in
theorem dl_301 : decode code 301 = .ok (.aload_n 0, 1) := by decide +kernel
set_option maxRecDepth 100000 in
theorem dl_302 : decode code 302 = .ok (.iload_n 3, 1) := by decide +kernel
set_option maxRecDepth 100000 in
theorem dl_303 : decode code 303 = .ok (.iconst 2, 1) := by decide +kernel
set_option maxRecDepth 100000 in
theorem dl_304 : decode code 304 = .ok (.iadd, 1) := by decide +kernel
set_option maxRecDepth 100000 in
theorem dl_305 : decode code 305 = .ok (.iaload, 1) := by decide +kernel
set_option maxRecDepth 100000 in
theorem dl_306 : decode code 306 = .ok (.invokevirtual 44, 3) := by decide +kernel
set_option maxRecDepth 100000 in
theorem dl_309 : decode code 309 = .ok (.aload_n 2, 1) := by decide +kernel
set_option maxRecDepth 100000 in
theorem dl_310 : decode code 310 = .ok (.aload_n 0, 1) := by decide +kernel
set_option maxRecDepth 100000 in
theorem dl_311 : decode code 311 = .ok (.iload_n 3, 1) := by decide +kernel
set_option maxRecDepth 100000 in
theorem dl_312 : decode code 312 = .ok (.iconst 1, 1) := by decide +kernel
set_option maxRecDepth 100000 in
theorem dl_313 : decode code 313 = .ok (.iadd, 1) := by decide +kernel
set_option maxRecDepth 100000 in
theorem dl_314 : decode code 314 = .ok (.iaload, 1) := by decide +kernel
set_option maxRecDepth 100000 in
theorem dl_315 : decode code 315 = .ok (.aload_n 0, 1) := by decide +kernel
set_option maxRecDepth 100000 in
theorem dl_316 : decode code 316 = .ok (.iload_n 3, 1) := by decide +kernel
set_option maxRecDepth 100000 in
theorem dl_317 : decode code 317 = .ok (.iconst 2, 1) := by decide +kernel
set_option maxRecDepth 100000 in
theorem dl_318 : decode code 318 = .ok (.iadd, 1) := by decide +kernel
set_option maxRecDepth 100000 in
theorem dl_319 : decode code 319 = .ok (.iaload, 1) := by decide +kernel
set_option maxRecDepth 100000 in
theorem dl_320 : decode code 320 = .ok (.invokevirtual 47, 3) := by decide +kernel
set_option maxRecDepth 100000 in
theorem dl_323 : decode code 323 = .ok (.if_icmp .eq 308, 3) := by decide +kernel
set_option maxRecDepth 100000 in
theorem dl_326 : decode code 326 = .ok (.iconst 0, 1) := by decide +kernel
set_option maxRecDepth 100000 in
theorem dl_327 : decode code 327 = .ok (.ireturn, 1) := by decide +kernel
set_option maxRecDepth 100000 in
theorem dl_328 : decode code 328 = .ok (.aload_n 1, 1) := by decide +kernel
set_option maxRecDepth 100000 in
theorem dl_329 : decode code 329 = .ok (.invokevirtual 48, 3) := by decide +kernel
set_option maxRecDepth 100000 in
theorem dl_332 : decode code 332 = .ok (.aload_n 2, 1) := by decide +kernel
set_option maxRecDepth 100000 in
theorem dl_333 : decode code 333 = .ok (.invokevirtual 51, 3) := by decide +kernel
set_option maxRecDepth 100000 in
theorem dl_336 : decode code 336 = .ok (.if_icmp .eq 295, 3) := by decide +kernel
set_option maxRecDepth 100000 in
theorem dl_339 : decode code 339 = .ok (.iconst 0, 1) := by decide +kernel
set_option maxRecDepth 100000 in
theorem dl_340 : decode code 340 = .ok (.ireturn, 1) := by decide +kernel
set_option maxRecDepth 100000 in
theorem dl_341 : decode code 341 = .ok (.aload_n 1, 1) := by decide +kernel
set_option maxRecDepth 100000 in
theorem dl_342 : decode code 342 = .ok (.aload_n 0, 1) := by decide +kernel
set_option maxRecDepth 100000 in
theorem dl_343 : decode code 343 = .ok (.iload_n 3, 1) := by decide +kernel
set_option maxRecDepth 100000 in
theorem dl_344 : decode code 344 = .ok (.iconst 1, 1) := by decide +kernel
set_option maxRecDepth 100000 in
theorem dl_345 : decode code 345 = .ok (.iadd, 1) := by decide +kernel
set_option maxRecDepth 100000 in
theorem dl_346 : decode code 346 = .ok (.iaload, 1) := by decide +kernel
set_option maxRecDepth 100000 in
theorem dl_347 : decode code 347 = .ok (.aload_n 0, 1) := by decide +kernel
set_option maxRecDepth 100000 in
theorem dl_348 : decode code 348 = .ok (.iload_n 3, 1) := by decide +kernel
set_option maxRecDepth 100000 in
theorem dl_349 : decode code 349 = .ok (.iconst 2, 1) := by decide +kernel
set_option maxRecDepth 100000 in
theorem dl_350 : decode code 350 = .ok (.iadd, 1) := by decide +kernel
set_option maxRecDepth 100000 in
theorem dl_351 : decode code 351 = .ok (.iaload, 1) := by decide +kernel
set_option maxRecDepth 100000 in
theorem dl_352 : decode code 352 = .ok (.invokevirtual 52, 3) := by decide +kernel
set_option maxRecDepth 100000 in
theorem dl_355 : decode code 355 = .ok (.aload_n 2, 1) := by decide +kernel
set_option maxRecDepth 100000 in
theorem dl_356 : decode code 356 = .ok (.aload_n 0, 1) := by decide +kernel
set_option maxRecDepth 100000 in
theorem dl_357 : decode code 357 = .ok (.iload_n 3, 1) := by decide +kernel
set_option maxRecDepth 100000 in
theorem dl_358 : decode code 358 = .ok (.iconst 1, 1) := by decide +kernel
set_option maxRecDepth 100000 in
theorem dl_359 : decode code 359 = .ok (.iadd, 1) := by decide +kernel
set_option maxRecDepth 100000 in
theorem dl_360 : decode code 360 = .ok (.iaload, 1) := by decide +kernel
set_option maxRecDepth 100000 in
theorem dl_361 : decode code 361 = .ok (.aload_n 0, 1) := by decide +kernel
set_option maxRecDepth 100000 in
theorem dl_362 : decode code 362 = .ok (.iload_n 3, 1) := by decide +kernel
set_option maxRecDepth 100000 in
theorem dl_363 : decode code 363 = .ok (.iconst 2, 1) := by decide +kernel
set_option maxRecDepth 100000 in
theorem dl_364 : decode code 364 = .ok (.iadd, 1) := by decide +kernel
set_option maxRecDepth 100000 in
theorem dl_365 : decode code 365 = .ok (.iaload, 1) := by decide +kernel
set_option maxRecDepth 100000 in
theorem dl_366 : decode code 366 = .ok (.invokevirtual 55, 3) := by decide +kernel
set_option maxRecDepth 100000 in
theorem dl_369 : decode code 369 = .ok (.if_icmp .eq 262, 3) := by decide +kernel
set_option maxRecDepth 100000 in
theorem dl_372 : decode code 372 = .ok (.iconst 0, 1) := by decide +kernel
set_option maxRecDepth 100000 in
theorem dl_373 : decode code 373 = .ok (.ireturn, 1) := by decide +kernel
set_option maxRecDepth 100000 in
theorem dl_374 : decode code 374 = .ok (.aload_n 1, 1) := by decide +kernel
set_option maxRecDepth 100000 in
theorem dl_375 : decode code 375 = .ok (.aload_n 0, 1) := by decide +kernel
set_option maxRecDepth 100000 in
theorem dl_376 : decode code 376 = .ok (.iload_n 3, 1) := by decide +kernel
set_option maxRecDepth 100000 in
theorem dl_377 : decode code 377 = .ok (.iconst 1, 1) := by decide +kernel
set_option maxRecDepth 100000 in
theorem dl_378 : decode code 378 = .ok (.iadd, 1) := by decide +kernel
set_option maxRecDepth 100000 in
theorem dl_379 : decode code 379 = .ok (.iaload, 1) := by decide +kernel
set_option maxRecDepth 100000 in
theorem dl_380 : decode code 380 = .ok (.aload_n 0, 1) := by decide +kernel
set_option maxRecDepth 100000 in
theorem dl_381 : decode code 381 = .ok (.iload_n 3, 1) := by decide +kernel
set_option maxRecDepth 100000 in
theorem dl_382 : decode code 382 = .ok (.iconst 2, 1) := by decide +kernel
set_option maxRecDepth 100000 in
theorem dl_383 : decode code 383 = .ok (.iadd, 1) := by decide +kernel
set_option maxRecDepth 100000 in
theorem dl_384 : decode code 384 = .ok (.iaload, 1) := by decide +kernel
set_option maxRecDepth 100000 in
theorem dl_385 : decode code 385 = .ok (.aload_n 0, 1) := by decide +kernel
set_option maxRecDepth 100000 in
theorem dl_386 : decode code 386 = .ok (.iload_n 3, 1) := by decide +kernel
set_option maxRecDepth 100000 in
theorem dl_387 : decode code 387 = .ok (.iconst 3, 1) := by decide +kernel
set_option maxRecDepth 100000 in
theorem dl_388 : decode code 388 = .ok (.iadd, 1) := by decide +kernel
set_option maxRecDepth 100000 in
theorem dl_389 : decode code 389 = .ok (.iaload, 1) := by decide +kernel
set_option maxRecDepth 100000 in
theorem dl_390 : decode code 390 = .ok (.invokevirtual 56, 3) := by decide +kernel
set_option maxRecDepth 100000 in
theorem dl_393 : decode code 393 = .ok (.aload_n 2, 1) := by decide +kernel
set_option maxRecDepth 100000 in
theorem dl_394 : decode code 394 = .ok (.aload_n 0, 1) := by decide +kernel
set_option maxRecDepth 100000 in
theorem dl_395 : decode code 395 = .ok (.iload_n 3, 1) := by decide +kernel
set_option maxRecDepth 100000 in
theorem dl_396 : decode code 396 = .ok (.iconst 1, 1) := by decide +kernel
set_option maxRecDepth 100000 in
theorem dl_397 : decode code 397 = .ok (.iadd, 1) := by decide +kernel
set_option maxRecDepth 100000 in
theorem dl_398 : decode code 398 = .ok (.iaload, 1) := by decide +kernel
set_option maxRecDepth 100000 in
theorem dl_399 : decode code 399 = .ok (.aload_n 0, 1) := by decide +kernel
set_option maxRecDepth 100000 in
theorem dl_400 : decode code 400 = .ok (.iload_n 3, 1) := by decide +kernel
set_option maxRecDepth 100000 in
theorem dl_401 : decode code 401 = .ok (.iconst 2, 1) := by decide +kernel
set_option maxRecDepth 100000 in
theorem dl_402 : decode code 402 = .ok (.iadd, 1) := by decide +kernel
set_option maxRecDepth 100000 in
theorem dl_403 : decode code 403 = .ok (.iaload, 1) := by decide +kernel
set_option maxRecDepth 100000 in
theorem dl_404 : decode code 404 = .ok (.aload_n 0, 1) := by decide +kernel
set_option maxRecDepth 100000 in
theorem dl_405 : decode code 405 = .ok (.iload_n 3, 1) := by decide +kernel
set_option maxRecDepth 100000 in
theorem dl_406 : decode code 406 = .ok (.iconst 3, 1) := by decide +kernel
set_option maxRecDepth 100000 in
theorem dl_407 : decode code 407 = .ok (.iadd, 1) := by decide +kernel
set_option maxRecDepth 100000 in
theorem dl_408 : decode code 408 = .ok (.iaload, 1) := by decide +kernel
set_option maxRecDepth 100000 in
theorem dl_409 : decode code 409 = .ok (.invokevirtual 60, 3) := by decide +kernel
set_option maxRecDepth 100000 in
theorem dl_412 : decode code 412 = .ok (.if_icmp .eq 219, 3) := by decide +kernel
set_option maxRecDepth 100000 in
theorem dl_415 : decode code 415 = .ok (.iconst 0, 1) := by decide +kernel
set_option maxRecDepth 100000 in
theorem dl_416 : decode code 416 = .ok (.ireturn, 1) := by decide +kernel
set_option maxRecDepth 100000 in
theorem dl_417 : decode code 417 = .ok (.aload_n 1, 1) := by decide +kernel
set_option maxRecDepth 100000 in
theorem dl_418 : decode code 418 = .ok (.aload_n 0, 1) := by decide +kernel
set_option maxRecDepth 100000 in
theorem dl_419 : decode code 419 = .ok (.iload_n 3, 1) := by decide +kernel
set_option maxRecDepth 100000 in
theorem dl_420 : decode code 420 = .ok (.iconst 1, 1) := by decide +kernel
set_option maxRecDepth 100000 in
theorem dl_421 : decode code 421 = .ok (.iadd, 1) := by decide +kernel
set_option maxRecDepth 100000 in
theorem dl_422 : decode code 422 = .ok (.iaload, 1) := by decide +kernel
set_option maxRecDepth 100000 in
theorem dl_423 : decode code 423 = .ok (.aload_n 0, 1) := by decide +kernel
set_option maxRecDepth 100000 in
theorem dl_424 : decode code 424 = .ok (.iload_n 3, 1) := by decide +kernel
set_option maxRecDepth 100000 in
theorem dl_425 : decode code 425 = .ok (.iconst 2, 1) := by decide +kernel
set_option maxRecDepth 100000 in
theorem dl_426 : decode code 426 = .ok (.iadd, 1) := by decide +kernel
set_option maxRecDepth 100000 in
theorem dl_427 : decode code 427 = .ok (.iaload, 1) := by decide +kernel
set_option maxRecDepth 100000 in
theorem dl_428 : decode code 428 = .ok (.invokevirtual 61, 3) := by decide +kernel
set_option maxRecDepth 100000 in
theorem dl_431 : decode code 431 = .ok (.aload_n 2, 1) := by decide +kernel
set_option maxRecDepth 100000 in
theorem dl_432 : decode code 432 = .ok (.aload_n 0, 1) := by decide +kernel
set_option maxRecDepth 100000 in
theorem dl_433 : decode code 433 = .ok (.iload_n 3, 1) := by decide +kernel
set_option maxRecDepth 100000 in
theorem dl_434 : decode code 434 = .ok (.iconst 1, 1) := by decide +kernel
set_option maxRecDepth 100000 in
theorem dl_435 : decode code 435 = .ok (.iadd, 1) := by decide +kernel
set_option maxRecDepth 100000 in
theorem dl_436 : decode code 436 = .ok (.iaload, 1) := by decide +kernel
set_option maxRecDepth 100000 in
theorem dl_437 : decode code 437 = .ok (.aload_n 0, 1) := by decide +kernel
set_option maxRecDepth 100000 in
theorem dl_438 : decode code 438 = .ok (.iload_n 3, 1) := by decide +kernel
set_option maxRecDepth 100000 in
theorem dl_439 : decode code 439 = .ok (.iconst 2, 1) := by decide +kernel
set_option maxRecDepth 100000 in
theorem dl_440 : decode code 440 = .ok (.iadd, 1) := by decide +kernel
set_option maxRecDepth 100000 in
theorem dl_441 : decode code 441 = .ok (.iaload, 1) := by decide +kernel
set_option maxRecDepth 100000 in
theorem dl_442 : decode code 442 = .ok (.invokevirtual 64, 3) := by decide +kernel
set_option maxRecDepth 100000 in
theorem dl_445 : decode code 445 = .ok (.if_icmp .eq 186, 3) := by decide +kernel
set_option maxRecDepth 100000 in
theorem dl_448 : decode code 448 = .ok (.iconst 0, 1) := by decide +kernel
set_option maxRecDepth 100000 in
theorem dl_449 : decode code 449 = .ok (.ireturn, 1) := by decide +kernel
set_option maxRecDepth 100000 in
theorem dl_450 : decode code 450 = .ok (.aload_n 1, 1) := by decide +kernel
set_option maxRecDepth 100000 in
theorem dl_451 : decode code 451 = .ok (.aload_n 0, 1) := by decide +kernel
set_option maxRecDepth 100000 in
theorem dl_452 : decode code 452 = .ok (.iload_n 3, 1) := by decide +kernel
set_option maxRecDepth 100000 in
theorem dl_453 : decode code 453 = .ok (.iconst 1, 1) := by decide +kernel
set_option maxRecDepth 100000 in
theorem dl_454 : decode code 454 = .ok (.iadd, 1) := by decide +kernel
set_option maxRecDepth 100000 in
theorem dl_455 : decode code 455 = .ok (.iaload, 1) := by decide +kernel
set_option maxRecDepth 100000 in
theorem dl_456 : decode code 456 = .ok (.aload_n 0, 1) := by decide +kernel
set_option maxRecDepth 100000 in
theorem dl_457 : decode code 457 = .ok (.iload_n 3, 1) := by decide +kernel
set_option maxRecDepth 100000 in
theorem dl_458 : decode code 458 = .ok (.iconst 2, 1) := by decide +kernel
set_option maxRecDepth 100000 in
theorem dl_459 : decode code 459 = .ok (.iadd, 1) := by decide +kernel
set_option maxRecDepth 100000 in
theorem dl_460 : decode code 460 = .ok (.iaload, 1) := by decide +kernel
set_option maxRecDepth 100000 in
theorem dl_461 : decode code 461 = .ok (.invokevirtual 65, 3) := by decide +kernel
set_option maxRecDepth 100000 in
theorem dl_464 : decode code 464 = .ok (.aload_n 2, 1) := by decide +kernel
set_option maxRecDepth 100000 in
theorem dl_465 : decode code 465 = .ok (.aload_n 0, 1) := by decide +kernel
set_option maxRecDepth 100000 in
theorem dl_466 : decode code 466 = .ok (.iload_n 3, 1) := by decide +kernel
set_option maxRecDepth 100000 in
theorem dl_467 : decode code 467 = .ok (.iconst 1, 1) := by decide +kernel
set_option maxRecDepth 100000 in
theorem dl_468 : decode code 468 = .ok (.iadd, 1) := by decide +kernel
set_option maxRecDepth 100000 in
theorem dl_469 : decode code 469 = .ok (.iaload, 1) := by decide +kernel
set_option maxRecDepth 100000 in
theorem dl_470 : decode code 470 = .ok (.aload_n 0, 1) := by decide +kernel
set_option maxRecDepth 100000 in
theorem dl_471 : decode code 471 = .ok (.iload_n 3, 1) := by decide +kernel
set_option maxRecDepth 100000 in
theorem dl_472 : decode code 472 = .ok (.iconst 2, 1) := by decide +kernel
set_option maxRecDepth 100000 in
theorem dl_473 : decode code 473 = .ok (.iadd, 1) := by decide +kernel
set_option maxRecDepth 100000 in
theorem dl_474 : decode code 474 = .ok (.iaload, 1) := by decide +kernel
set_option maxRecDepth 100000 in
theorem dl_475 : decode code 475 = .ok (.invokevirtual 68, 3) := by decide +kernel
set_option maxRecDepth 100000 in
theorem dl_478 : decode code 478 = .ok (.if_icmp .eq 153, 3) := by decide +kernel
set_option maxRecDepth 100000 in
theorem dl_481 : decode code 481 = .ok (.iconst 0, 1) := by decide +kernel
set_option maxRecDepth 100000 in
theorem dl_482 : decode code 482 = .ok (.ireturn, 1) := by decide +kernel
set_option maxRecDepth 100000 in
theorem dl_483 : decode code 483 = .ok (.aload_n 1, 1) := by decide +kernel
set_option maxRecDepth 100000 in
theorem dl_484 : decode code 484 = .ok (.invokevirtual 69, 3) := by decide +kernel
set_option maxRecDepth 100000 in
theorem dl_487 : decode code 487 = .ok (.aload_n 2, 1) := by decide +kernel
set_option maxRecDepth 100000 in
theorem dl_488 : decode code 488 = .ok (.invokevirtual 72, 3) := by decide +kernel
set_option maxRecDepth 100000 in
theorem dl_491 : decode code 491 = .ok (.if_icmp .eq 140, 3) := by decide +kernel
set_option maxRecDepth 100000 in
theorem dl_494 : decode code 494 = .ok (.iconst 0, 1) := by decide +kernel
set_option maxRecDepth 100000 in
theorem dl_495 : decode code 495 = .ok (.ireturn, 1) := by decide +kernel
set_option maxRecDepth 100000 in
theorem dl_496 : decode code 496 = .ok (.aload_n 1, 1) := by decide +kernel
set_option maxRecDepth 100000 in
theorem dl_497 : decode code 497 = .ok (.aload_n 0, 1) := by decide +kernel
set_option maxRecDepth 100000 in
theorem dl_498 : decode code 498 = .ok (.iload_n 3, 1) := by decide +kernel
set_option maxRecDepth 100000 in
theorem dl_499 : decode code 499 = .ok (.iconst 1, 1) := by decide +kernel
set_option maxRecDepth 100000 in
theorem dl_500 : decode code 500 = .ok (.iadd, 1) := by decide +kernel
set_option maxRecDepth 100000 in
theorem dl_501 : decode code 501 = .ok (.iaload, 1) := by decide +kernel
set_option maxRecDepth 100000 in
theorem dl_502 : decode code 502 = .ok (.invokevirtual 73, 3) := by decide +kernel
set_option maxRecDepth 100000 in
theorem dl_505 : decode code 505 = .ok (.aload_n 2, 1) := by decide +kernel
set_option maxRecDepth 100000 in
theorem dl_506 : decode code 506 = .ok (.aload_n 0, 1) := by decide +kernel
set_option maxRecDepth 100000 in
theorem dl_507 : decode code 507 = .ok (.iload_n 3, 1) := by decide +kernel
set_option maxRecDepth 100000 in
theorem dl_508 : decode code 508 = .ok (.iconst 1, 1) := by decide +kernel
set_option maxRecDepth 100000 in
theorem dl_509 : decode code 509 = .ok (.iadd, 1) := by decide +kernel
set_option maxRecDepth 100000 in
theorem dl_510 : decode code 510 = .ok (.iaload, 1) := by decide +kernel
set_option maxRecDepth 100000 in
theorem dl_511 : decode code 511 = .ok (.invokevirtual 76, 3) := by decide +kernel
set_option maxRecDepth 100000 in
theorem dl_514 : decode code 514 = .ok (.if_icmp .eq 117, 3) := by decide +kernel
set_option maxRecDepth 100000 in
theorem dl_517 : decode code 517 = .ok (.iconst 0, 1) := by decide +kernel
set_option maxRecDepth 100000 in
theorem dl_518 : decode code 518 = .ok (.ireturn, 1) := by decide +kernel
set_option maxRecDepth 100000 in
theorem dl_519 : decode code 519 = .ok (.aload_n 1, 1) := by decide +kernel
set_option maxRecDepth 100000 in
theorem dl_520 : decode code 520 = .ok (.aload_n 0, 1) := by decide +kernel
set_option maxRecDepth 100000 in
theorem dl_521 : decode code 521 = .ok (.iload_n 3, 1) := by decide +kernel
set_option maxRecDepth 100000 in
theorem dl_522 : decode code 522 = .ok (.iconst 1, 1) := by decide +kernel
set_option maxRecDepth 100000 in
theorem dl_523 : decode code 523 = .ok (.iadd, 1) := by decide +kernel
set_option maxRecDepth 100000 in
theorem dl_524 : decode code 524 = .ok (.iaload, 1) := by decide +kernel
set_option maxRecDepth 100000 in
theorem dl_525 : decode code 525 = .ok (.aload_n 0, 1) := by decide +kernel
set_option maxRecDepth 100000 in
theorem dl_526 : decode code 526 = .ok (.iload_n 3, 1) := by decide +kernel
set_option maxRecDepth 100000 in
theorem dl_527 : decode code 527 = .ok (.iconst 2, 1) := by decide +kernel
set_option maxRecDepth 100000 in
theorem dl_528 : decode code 528 = .ok (.iadd, 1) := by decide +kernel
set_option maxRecDepth 100000 in
theorem dl_529 : decode code 529 = .ok (.iaload, 1) := by decide +kernel
set_option maxRecDepth 100000 in
theorem dl_530 : decode code 530 = .ok (.aload_n 0, 1) := by decide +kernel
set_option maxRecDepth 100000 in
theorem dl_531 : decode code 531 = .ok (.iload_n 3, 1) := by decide +kernel
set_option maxRecDepth 100000 in
theorem dl_532 : decode code 532 = .ok (.iconst 3, 1) := by decide +kernel
set_option maxRecDepth 100000 in
theorem dl_533 : decode code 533 = .ok (.iadd, 1) := by decide +kernel
set_option maxRecDepth 100000 in
theorem dl_534 : decode code 534 = .ok (.iaload, 1) := by decide +kernel
set_option maxRecDepth 100000 in
theorem dl_535 : decode code 535 = .ok (.invokevirtual 77, 3) := by decide +kernel
set_option maxRecDepth 100000 in
theorem dl_538 : decode code 538 = .ok (.aload_n 2, 1) := by decide +kernel
set_option maxRecDepth 100000 in
theorem dl_539 : decode code 539 = .ok (.aload_n 0, 1) := by decide +kernel
set_option maxRecDepth 100000 in
theorem dl_540 : decode code 540 = .ok (.iload_n 3, 1) := by decide +kernel
set_option maxRecDepth 100000 in
theorem dl_541 : decode code 541 = .ok (.iconst 1, 1) := by decide +kernel
set_option maxRecDepth 100000 in
theorem dl_542 : decode code 542 = .ok (.iadd, 1) := by decide +kernel
set_option maxRecDepth 100000 in
theorem dl_543 : decode code 543 = .ok (.iaload, 1) := by decide +kernel
set_option maxRecDepth 100000 in
theorem dl_544 : decode code 544 = .ok (.aload_n 0, 1) := by decide +kernel
set_option maxRecDepth 100000 in
theorem dl_545 : decode code 545 = .ok (.iload_n 3, 1) := by decide +kernel
set_option maxRecDepth 100000 in
theorem dl_546 : decode code 546 = .ok (.iconst 2, 1) := by decide +kernel
set_option maxRecDepth 100000 in
theorem dl_547 : decode code 547 = .ok (.iadd, 1) := by decide +kernel
set_option maxRecDepth 100000 in
theorem dl_548 : decode code 548 = .ok (.iaload, 1) := by decide +kernel
set_option maxRecDepth 100000 in
theorem dl_549 : decode code 549 = .ok (.aload_n 0, 1) := by decide +kernel
set_option maxRecDepth 100000 in
theorem dl_550 : decode code 550 = .ok (.iload_n 3, 1) := by decide +kernel
set_option maxRecDepth 100000 in
theorem dl_551 : decode code 551 = .ok (.iconst 3, 1) := by decide +kernel
set_option maxRecDepth 100000 in
theorem dl_552 : decode code 552 = .ok (.iadd, 1) := by decide +kernel
set_option maxRecDepth 100000 in
theorem dl_553 : decode code 553 = .ok (.iaload, 1) := by decide +kernel
set_option maxRecDepth 100000 in
theorem dl_554 : decode code 554 = .ok (.invokevirtual 80, 3) := by decide +kernel
set_option maxRecDepth 100000 in
theorem dl_557 : decode code 557 = .ok (.if_icmp .eq 74, 3) := by decide +kernel
set_option maxRecDepth 100000 in
theorem dl_560 : decode code 560 = .ok (.iconst 0, 1) := by decide +kernel
set_option maxRecDepth 100000 in
theorem dl_561 : decode code 561 = .ok (.ireturn, 1) := by decide +kernel
set_option maxRecDepth 100000 in
theorem dl_562 : decode code 562 = .ok (.aload_n 1, 1) := by decide +kernel
set_option maxRecDepth 100000 in
theorem dl_563 : decode code 563 = .ok (.aload_n 0, 1) := by decide +kernel
set_option maxRecDepth 100000 in
theorem dl_564 : decode code 564 = .ok (.iload_n 3, 1) := by decide +kernel
set_option maxRecDepth 100000 in
theorem dl_565 : decode code 565 = .ok (.iconst 1, 1) := by decide +kernel
set_option maxRecDepth 100000 in
theorem dl_566 : decode code 566 = .ok (.iadd, 1) := by decide +kernel
set_option maxRecDepth 100000 in
theorem dl_567 : decode code 567 = .ok (.iaload, 1) := by decide +kernel
set_option maxRecDepth 100000 in
theorem dl_568 : decode code 568 = .ok (.invokevirtual 81, 3) := by decide +kernel
set_option maxRecDepth 100000 in
theorem dl_571 : decode code 571 = .ok (.aload_n 2, 1) := by decide +kernel
set_option maxRecDepth 100000 in
theorem dl_572 : decode code 572 = .ok (.aload_n 0, 1) := by decide +kernel
set_option maxRecDepth 100000 in
theorem dl_573 : decode code 573 = .ok (.iload_n 3, 1) := by decide +kernel
set_option maxRecDepth 100000 in
theorem dl_574 : decode code 574 = .ok (.iconst 1, 1) := by decide +kernel
set_option maxRecDepth 100000 in
theorem dl_575 : decode code 575 = .ok (.iadd, 1) := by decide +kernel
set_option maxRecDepth 100000 in
theorem dl_576 : decode code 576 = .ok (.iaload, 1) := by decide +kernel
set_option maxRecDepth 100000 in
theorem dl_577 : decode code 577 = .ok (.invokevirtual 84, 3) := by decide +kernel
set_option maxRecDepth 100000 in
theorem dl_580 : decode code 580 = .ok (.if_icmp .eq 51, 3) := by decide +kernel
set_option maxRecDepth 100000 in
theorem dl_583 : decode code 583 = .ok (.iconst 0, 1) := by decide +kernel
set_option maxRecDepth 100000 in
theorem dl_584 : decode code 584 = .ok (.ireturn, 1) := by decide +kernel
set_option maxRecDepth 100000 in
theorem dl_585 : decode code 585 = .ok (.aload_n 1, 1) := by decide +kernel
set_option maxRecDepth 100000 in
theorem dl_586 : decode code 586 = .ok (.aload_n 0, 1) := by decide +kernel
set_option maxRecDepth 100000 in
theorem dl_587 : decode code 587 = .ok (.iload_n 3, 1) := by decide +kernel
set_option maxRecDepth 100000 in
theorem dl_588 : decode code 588 = .ok (.iconst 1, 1) := by decide +kernel
set_option maxRecDepth 100000 in
theorem dl_589 : decode code 589 = .ok (.iadd, 1) := by decide +kernel
set_option maxRecDepth 100000 in
theorem dl_590 : decode code 590 = .ok (.iaload, 1) := by decide +kernel
set_option maxRecDepth 100000 in
theorem dl_591 : decode code 591 = .ok (.invokevirtual 85, 3) := by decide +kernel
set_option maxRecDepth 100000 in
theorem dl_594 : decode code 594 = .ok (.aload_n 2, 1) := by decide +kernel
set_option maxRecDepth 100000 in
theorem dl_595 : decode code 595 = .ok (.aload_n 0, 1) := by decide +kernel
set_option maxRecDepth 100000 in
theorem dl_596 : decode code 596 = .ok (.iload_n 3, 1) := by decide +kernel
set_option maxRecDepth 100000 in
theorem dl_597 : decode code 597 = .ok (.iconst 1, 1) := by decide +kernel
set_option maxRecDepth 100000 in
theorem dl_598 : decode code 598 = .ok (.iadd, 1) := by decide +kernel
set_option maxRecDepth 100000 in
theorem dl_599 : decode code 599 = .ok (.iaload, 1) := by decide +kernel
set_option maxRecDepth 100000 in
theorem dl_600 : decode code 600 = .ok (.invokevirtual 88, 3) := by decide +kernel
set_option maxRecDepth 100000 in
theorem dl_603 : decode code 603 = .ok (.if_icmp .eq 28, 3) := by decide +kernel
set_option maxRecDepth 100000 in
theorem dl_606 : decode code 606 = .ok (.iconst 0, 1) := by decide +kernel
set_option maxRecDepth 100000 in
theorem dl_607 : decode code 607 = .ok (.ireturn, 1) := by decide +kernel
set_option maxRecDepth 100000 in
theorem dl_608 : decode code 608 = .ok (.aload_n 1, 1) := by decide +kernel
set_option maxRecDepth 100000 in
theorem dl_609 : decode code 609 = .ok (.aload_n 0, 1) := by decide +kernel
set_option maxRecDepth 100000 in
theorem dl_610 : decode code 610 = .ok (.iload_n 3, 1) := by decide +kernel
set_option maxRecDepth 100000 in
theorem dl_611 : decode code 611 = .ok (.iconst 1, 1) := by decide +kernel
set_option maxRecDepth 100000 in
theorem dl_612 : decode code 612 = .ok (.iadd, 1) := by decide +kernel
set_option maxRecDepth 100000 in
theorem dl_613 : decode code 613 = .ok (.iaload, 1) := by decide +kernel
set_option maxRecDepth 100000 in
theorem dl_614 : decode code 614 = .ok (.invokevirtual 89, 3) := by decide +kernel
set_option maxRecDepth 100000 in
theorem dl_617 : decode code 617 = .ok (.aload_n 2, 1) := by decide +kernel
set_option maxRecDepth 100000 in
theorem dl_618 : decode code 618 = .ok (.aload_n 0, 1) := by decide +kernel
set_option maxRecDepth 100000 in
theorem dl_619 : decode code 619 = .ok (.iload_n 3, 1) := by decide +kernel
set_option maxRecDepth 100000 in
theorem dl_620 : decode code 620 = .ok (.iconst 1, 1) := by decide +kernel
set_option maxRecDepth 100000 in
theorem dl_621 : decode code 621 = .ok (.iadd, 1) := by decide +kernel
set_option maxRecDepth 100000 in
theorem dl_622 : decode code 622 = .ok (.iaload, 1) := by decide +kernel
set_option maxRecDepth 100000 in
theorem dl_623 : decode code 623 = .ok (.invokevirtual 92, 3) := by decide +kernel
set_option maxRecDepth 100000 in
theorem dl_626 : decode code 626 = .ok (.if_icmp .eq 5, 3) := by decide +kernel
set_option maxRecDepth 100000 in
theorem dl_629 : decode code 629 = .ok (.iconst 0, 1) := by decide +kernel
set_option maxRecDepth 100000 in
theorem dl_630 : decode code 630 = .ok (.ireturn, 1) := by decide +kernel
set_option maxRecDepth 100000 in
theorem dl_631 : decode code 631 = .ok (.iinc 3 4, 3) := by decide +kernel
set_option maxRecDepth 100000 in
theorem dl_634 : decode code 634 = .ok (.goto (-616), 3) := by decide +kernel
set_option maxRecDepth 100000 in
theorem dl_637 : decode code 637 = .ok (.iconst 1, 1) := by decide +kernel
set_option maxRecDepth 100000 in
theorem dl_638 : decode code 638 = .ok (.ireturn, 1) := by decide +kernel
