theorem dX9_readsItem_113 : decode cX9_readsItem 113 = .ok (.iload_n 3, 1) := by decide +kernel
theorem dX9_readsItem_114 : decode cX9_readsItem 114 = .ok (.bipush 6, 2) := by decide +kernel
theorem dX9_readsItem_116 : decode cX9_readsItem 116 = .ok (.if_icmp .eq 9, 3) := by decide +kernel
theorem dX9_readsItem_119 : decode cX9_readsItem 119 = .ok (.iload_n 3, 1) := by decide +kernel
theorem dX9_readsItem_120 : decode cX9_readsItem 120 = .ok (.bipush 7, 2) := by decide +kernel
theorem dX9_readsItem_122 : decode cX9_readsItem 122 = .ok (.if_icmp .ne 9, 3) := by decide +kernel
theorem dX9_readsItem_125 : decode cX9_readsItem 125 = .ok (.sipush 192, 3) := by decide +kernel
theorem dX9_readsItem_128 : decode cX9_readsItem 128 = .ok (.goto 6, 3) := by decide +kernel
theorem dX9_readsItem_131 : decode cX9_readsItem 131 = .ok (.sipush 193, 3) := by decide +kernel
theorem dX9_readsItem_134 : decode cX9_readsItem 134 = .ok (.iload_n 3, 1) := by decide +kernel
theorem dX9_readsItem_135 : decode cX9_readsItem 135 = .ok (.bipush 6, 2) := by decide +kernel
theorem dX9_readsItem_137 : decode cX9_readsItem 137 = .ok (.if_icmp .eq 9, 3) := by decide +kernel
theorem dX9_readsItem_140 : decode cX9_readsItem 140 = .ok (.iload_n 3, 1) := by decide +kernel
theorem dX9_readsItem_141 : decode cX9_readsItem 141 = .ok (.bipush 8, 2) := by decide +kernel
theorem dX9_readsItem_143 : decode cX9_readsItem 143 = .ok (.if_icmp .ne 8, 3) := by decide +kernel
theorem dX9_readsItem_146 : decode cX9_readsItem 146 = .ok (.iload 4, 2) := by decide +kernel
theorem dX9_readsItem_148 : decode cX9_readsItem 148 = .ok (.goto 6, 3) := by decide +kernel
theorem dX9_readsItem_151 : decode cX9_readsItem 151 = .ok (.iload 4, 2) := by decide +kernel
theorem dX9_readsItem_153 : decode cX9_readsItem 153 = .ok (.ineg, 1) := by decide +kernel
theorem dX9_readsItem_154 : decode cX9_readsItem 154 = .ok (.iastore, 1) := by decide +kernel
theorem dX9_readsItem_155 : decode cX9_readsItem 155 = .ok (.goto 190, 3) := by decide +kernel
theorem dX9_readsItem_158 : decode cX9_readsItem 158 = .ok (.iload_n 1, 1) := by decide +kernel
theorem dX9_readsItem_159 : decode cX9_readsItem 159 = .ok (.iconst 4, 1) := by decide +kernel
theorem dX9_readsItem_160 : decode cX9_readsItem 160 = .ok (.if_icmp .ne 84, 3) := by decide +kernel
theorem dX9_readsItem_163 : decode cX9_readsItem 163 = .ok (.bipush 24, 2) := by decide +kernel
theorem dX9_readsItem_165 : decode cX9_readsItem 165 = .ok (.iconst 4, 1) := by decide +kernel
theorem dX9_readsItem_166 : decode cX9_readsItem 166 = .ok (.aload_n 0, 1) := by decide +kernel
theorem dX9_readsItem_167 : decode cX9_readsItem 167 = .ok (.getfield 111, 3) := by decide +kernel
theorem dX9_readsItem_170 : decode cX9_readsItem 170 = .ok (.imul, 1) := by decide +kernel
theorem dX9_readsItem_171 : decode cX9_readsItem 171 = .ok (.iadd, 1) := by decide +kernel
theorem dX9_readsItem_172 : decode cX9_readsItem 172 = .ok (.istore_n 3, 1) := by decide +kernel
theorem dX9_readsItem_173 : decode cX9_readsItem 173 = .ok (.aload_n 0, 1) := by decide +kernel
theorem dX9_readsItem_174 : decode cX9_readsItem 174 = .ok (.getfield 26, 3) := by decide +kernel
theorem dX9_readsItem_177 : decode cX9_readsItem 177 = .ok (.iload_n 3, 1) := by decide +kernel
theorem dX9_readsItem_178 : decode cX9_readsItem 178 = .ok (.aload_n 0, 1) := by decide +kernel
theorem dX9_readsItem_179 : decode cX9_readsItem 179 = .ok (.iconst 0, 1) := by decide +kernel
theorem dX9_readsItem_180 : decode cX9_readsItem 180 = .ok (.iload_n 2, 1) := by decide +kernel
theorem dX9_readsItem_181 : decode cX9_readsItem 181 = .ok (.iconst 1, 1) := by decide +kernel
theorem dX9_readsItem_182 : decode cX9_readsItem 182 = .ok (.isub, 1) := by decide +kernel
theorem dX9_readsItem_183 : decode cX9_readsItem 183 = .ok (.invokevirtual 117, 3) := by decide +kernel
theorem dX9_readsItem_186 : decode cX9_readsItem 186 = .ok (.iastore, 1) := by decide +kernel
theorem dX9_readsItem_187 : decode cX9_readsItem 187 = .ok (.aload_n 0, 1) := by decide +kernel
theorem dX9_readsItem_188 : decode cX9_readsItem 188 = .ok (.getfield 26, 3) := by decide +kernel
theorem dX9_readsItem_191 : decode cX9_readsItem 191 = .ok (.iload_n 3, 1) := by decide +kernel
theorem dX9_readsItem_192 : decode cX9_readsItem 192 = .ok (.iconst 1, 1) := by decide +kernel
theorem dX9_readsItem_193 : decode cX9_readsItem 193 = .ok (.iadd, 1) := by decide +kernel
theorem dX9_readsItem_194 : decode cX9_readsItem 194 = .ok (.aload_n 0, 1) := by decide +kernel
theorem dX9_readsItem_195 : decode cX9_readsItem 195 = .ok (.iconst 1, 1) := by decide +kernel
theorem dX9_readsItem_196 : decode cX9_readsItem 196 = .ok (.bipush 99, 2) := by decide +kernel
theorem dX9_readsItem_198 : decode cX9_readsItem 198 = .ok (.invokevirtual 117, 3) := by decide +kernel
theorem dX9_readsItem_201 : decode cX9_readsItem 201 = .ok (.iastore, 1) := by decide +kernel
theorem dX9_readsItem_202 : decode cX9_readsItem 202 = .ok (.aload_n 0, 1) := by decide +kernel
theorem dX9_readsItem_203 : decode cX9_readsItem 203 = .ok (.getfield 26, 3) := by decide +kernel
theorem dX9_readsItem_206 : decode cX9_readsItem 206 = .ok (.iload_n 3, 1) := by decide +kernel
theorem dX9_readsItem_207 : decode cX9_readsItem 207 = .ok (.iconst 2, 1) := by decide +kernel
theorem dX9_readsItem_208 : decode cX9_readsItem 208 = .ok (.iadd, 1) := by decide +kernel
theorem dX9_readsItem_209 : decode cX9_readsItem 209 = .ok (.aload_n 0, 1) := by decide +kernel
theorem dX9_readsItem_210 : decode cX9_readsItem 210 = .ok (.iconst 0, 1) := by decide +kernel
theorem dX9_readsItem_211 : decode cX9_readsItem 211 = .ok (.iconst 4, 1) := by decide +kernel
theorem dX9_readsItem_212 : decode cX9_readsItem 212 = .ok (.invokevirtual 117, 3) := by decide +kernel
theorem dX9_readsItem_215 : decode cX9_readsItem 215 = .ok (.iastore, 1) := by decide +kernel
theorem dX9_readsItem_216 : decode cX9_readsItem 216 = .ok (.aload_n 0, 1) := by decide +kernel
theorem dX9_readsItem_217 : decode cX9_readsItem 217 = .ok (.getfield 26, 3) := by decide +kernel
theorem dX9_readsItem_220 : decode cX9_readsItem 220 = .ok (.iload_n 3, 1) := by decide +kernel
theorem dX9_readsItem_221 : decode cX9_readsItem 221 = .ok (.iconst 3, 1) := by decide +kernel
theorem dX9_readsItem_222 : decode cX9_readsItem 222 = .ok (.iadd, 1) := by decide +kernel
theorem dX9_readsItem_223 : decode cX9_readsItem 223 = .ok (.aload_n 0, 1) := by decide +kernel
theorem dX9_readsItem_224 : decode cX9_readsItem 224 = .ok (.iconst 0, 1) := by decide +kernel
theorem dX9_readsItem_225 : decode cX9_readsItem 225 = .ok (.bipush 99, 2) := by decide +kernel
theorem dX9_readsItem_227 : decode cX9_readsItem 227 = .ok (.invokevirtual 117, 3) := by decide +kernel
theorem dX9_readsItem_230 : decode cX9_readsItem 230 = .ok (.iastore, 1) := by decide +kernel
theorem dX9_readsItem_231 : decode cX9_readsItem 231 = .ok (.aload_n 0, 1) := by decide +kernel
theorem dX9_readsItem_232 : decode cX9_readsItem 232 = .ok (.dup, 1) := by decide +kernel
theorem dX9_readsItem_233 : decode cX9_readsItem 233 = .ok (.getfield 111, 3) := by decide +kernel
theorem dX9_readsItem_236 : decode cX9_readsItem 236 = .ok (.iconst 1, 1) := by decide +kernel
theorem dX9_readsItem_237 : decode cX9_readsItem 237 = .ok (.iadd, 1) := by decide +kernel
theorem dX9_readsItem_238 : decode cX9_readsItem 238 = .ok (.putfield 111, 3) := by decide +kernel
theorem dX9_readsItem_241 : decode cX9_readsItem 241 = .ok (.goto 104, 3) := by decide +kernel
theorem dX9_readsItem_244 : decode cX9_readsItem 244 = .ok (.bipush 40, 2) := by decide +kernel
theorem dX9_readsItem_246 : decode cX9_readsItem 246 = .ok (.iconst 5, 1) := by decide +kernel
theorem dX9_readsItem_247 : decode cX9_readsItem 247 = .ok (.aload_n 0, 1) := by decide +kernel
theorem dX9_readsItem_248 : decode cX9_readsItem 248 = .ok (.getfield 114, 3) := by decide +kernel
theorem dX9_readsItem_251 : decode cX9_readsItem 251 = .ok (.imul, 1) := by decide +kernel
theorem dX9_readsItem_252 : decode cX9_readsItem 252 = .ok (.iadd, 1) := by decide +kernel
theorem dX9_readsItem_253 : decode cX9_readsItem 253 = .ok (.istore_n 3, 1) := by decide +kernel
theorem dX9_readsItem_254 : decode cX9_readsItem 254 = .ok (.aload_n 0, 1) := by decide +kernel
theorem dX9_readsItem_255 : decode cX9_readsItem 255 = .ok (.getfield 29, 3) := by decide +kernel
theorem dX9_readsItem_258 : decode cX9_readsItem 258 = .ok (.iload_n 3, 1) := by decide +kernel
theorem dX9_readsItem_259 : decode cX9_readsItem 259 = .ok (.aload_n 0, 1) := by decide +kernel
theorem dX9_readsItem_260 : decode cX9_readsItem 260 = .ok (.iconst 0, 1) := by decide +kernel
theorem dX9_readsItem_261 : decode cX9_readsItem 261 = .ok (.iload_n 2, 1) := by decide +kernel
theorem dX9_readsItem_262 : decode cX9_readsItem 262 = .ok (.iconst 1, 1) := by decide +kernel
theorem dX9_readsItem_263 : decode cX9_readsItem 263 = .ok (.isub, 1) := by decide +kernel
theorem dX9_readsItem_264 : decode cX9_readsItem 264 = .ok (.invokevirtual 117, 3) := by decide +kernel
theorem dX9_readsItem_267 : decode cX9_readsItem 267 = .ok (.iastore, 1) := by decide +kernel
theorem dX9_readsItem_268 : decode cX9_readsItem 268 = .ok (.aload_n 0, 1) := by decide +kernel
theorem dX9_readsItem_269 : decode cX9_readsItem 269 = .ok (.getfield 29, 3) := by decide +kernel
theorem dX9_readsItem_272 : decode cX9_readsItem 272 = .ok (.iload_n 3, 1) := by decide +kernel
theorem dX9_readsItem_273 : decode cX9_readsItem 273 = .ok (.iconst 1, 1) := by decide +kernel
theorem dX9_readsItem_274 : decode cX9_readsItem 274 = .ok (.iadd, 1) := by decide +kernel
theorem dX9_readsItem_275 : decode cX9_readsItem 275 = .ok (.aload_n 0, 1) := by decide +kernel
theorem dX9_readsItem_276 : decode cX9_readsItem 276 = .ok (.iconst 0, 1) := by decide +kernel
theorem dX9_readsItem_277 : decode cX9_readsItem 277 = .ok (.bipush 11, 2) := by decide +kernel
theorem dX9_readsItem_279 : decode cX9_readsItem 279 = .ok (.invokevirtual 117, 3) := by decide +kernel
theorem dX9_readsItem_282 : decode cX9_readsItem 282 = .ok (.iastore, 1) := by decide +kernel
theorem dX9_readsItem_283 : decode cX9_readsItem 283 = .ok (.aload_n 0, 1) := by decide +kernel
theorem dX9_readsItem_284 : decode cX9_readsItem 284 = .ok (.getfield 29, 3) := by decide +kernel
theorem dX9_readsItem_287 : decode cX9_readsItem 287 = .ok (.iload_n 3, 1) := by decide +kernel
theorem dX9_readsItem_288 : decode cX9_readsItem 288 = .ok (.iconst 2, 1) := by decide +kernel
theorem dX9_readsItem_289 : decode cX9_readsItem 289 = .ok (.iadd, 1) := by decide +kernel
theorem dX9_readsItem_290 : decode cX9_readsItem 290 = .ok (.aload_n 0, 1) := by decide +kernel
theorem dX9_readsItem_291 : decode cX9_readsItem 291 = .ok (.aload_n 0, 1) := by decide +kernel
theorem dX9_readsItem_292 : decode cX9_readsItem 292 = .ok (.getfield 29, 3) := by decide +kernel
theorem dX9_readsItem_295 : decode cX9_readsItem 295 = .ok (.iload_n 3, 1) := by decide +kernel
theorem dX9_readsItem_296 : decode cX9_readsItem 296 = .ok (.iconst 1, 1) := by decide +kernel
theorem dX9_readsItem_297 : decode cX9_readsItem 297 = .ok (.iadd, 1) := by decide +kernel
theorem dX9_readsItem_298 : decode cX9_readsItem 298 = .ok (.iaload, 1) := by decide +kernel
theorem dX9_readsItem_299 : decode cX9_readsItem 299 = .ok (.bipush 11, 2) := by decide +kernel
theorem dX9_readsItem_301 : decode cX9_readsItem 301 = .ok (.invokevirtual 117, 3) := by decide +kernel
theorem dX9_readsItem_304 : decode cX9_readsItem 304 = .ok (.iastore, 1) := by decide +kernel
theorem dX9_readsItem_305 : decode cX9_readsItem 305 = .ok (.aload_n 0, 1) := by decide +kernel
theorem dX9_readsItem_306 : decode cX9_readsItem 306 = .ok (.getfield 29, 3) := by decide +kernel
theorem dX9_readsItem_309 : decode cX9_readsItem 309 = .ok (.iload_n 3, 1) := by decide +kernel
theorem dX9_readsItem_310 : decode cX9_readsItem 310 = .ok (.iconst 3, 1) := by decide +kernel
theorem dX9_readsItem_311 : decode cX9_readsItem 311 = .ok (.iadd, 1) := by decide +kernel
theorem dX9_readsItem_312 : decode cX9_readsItem 312 = .ok (.aload_n 0, 1) := by decide +kernel
theorem dX9_readsItem_313 : decode cX9_readsItem 313 = .ok (.iconst 0, 1) := by decide +kernel
theorem dX9_readsItem_314 : decode cX9_readsItem 314 = .ok (.bipush 99, 2) := by decide +kernel
theorem dX9_readsItem_316 : decode cX9_readsItem 316 = .ok (.invokevirtual 117, 3) := by decide +kernel
theorem dX9_readsItem_319 : decode cX9_readsItem 319 = .ok (.iastore, 1) := by decide +kernel
theorem dX9_readsItem_320 : decode cX9_readsItem 320 = .ok (.aload_n 0, 1) := by decide +kernel
theorem dX9_readsItem_321 : decode cX9_readsItem 321 = .ok (.getfield 29, 3) := by decide +kernel
theorem dX9_readsItem_324 : decode cX9_readsItem 324 = .ok (.iload_n 3, 1) := by decide +kernel
theorem dX9_readsItem_325 : decode cX9_readsItem 325 = .ok (.iconst 4, 1) := by decide +kernel
theorem dX9_readsItem_326 : decode cX9_readsItem 326 = .ok (.iadd, 1) := by decide +kernel
theorem dX9_readsItem_327 : decode cX9_readsItem 327 = .ok (.aload_n 0, 1) := by decide +kernel
theorem dX9_readsItem_328 : decode cX9_readsItem 328 = .ok (.iconst 0, 1) := by decide +kernel
theorem dX9_readsItem_329 : decode cX9_readsItem 329 = .ok (.bipush 99, 2) := by decide +kernel
theorem dX9_readsItem_331 : decode cX9_readsItem 331 = .ok (.invokevirtual 117, 3) := by decide +kernel
theorem dX9_readsItem_334 : decode cX9_readsItem 334 = .ok (.iastore, 1) := by decide +kernel
theorem dX9_readsItem_335 : decode cX9_readsItem 335 = .ok (.aload_n 0, 1) := by decide +kernel
theorem dX9_readsItem_336 : decode cX9_readsItem 336 = .ok (.dup, 1) := by decide +kernel
theorem dX9_readsItem_337 : decode cX9_readsItem 337 = .ok (.getfield 114, 3) := by decide +kernel
theorem dX9_readsItem_340 : decode cX9_readsItem 340 = .ok (.iconst 1, 1) := by decide +kernel
theorem dX9_readsItem_341 : decode cX9_readsItem 341 = .ok (.iadd, 1) := by decide +kernel
theorem dX9_readsItem_342 : decode cX9_readsItem 342 = .ok (.putfield 114, 3) := by decide +kernel
theorem dX9_readsItem_345 : decode cX9_readsItem 345 = .ok (.return_, 1) := by decide +kernel
set_option maxRecDepth 20000 in
theorem ggX9_hill_X9_begins : GoodIn wsX9_hill wsX9_begins := goodIn_r _ [13, 14, 15, 6, 7, 16, 81, 82, 83, 84, 85, 86, 87, 88, 89, 90, 91, 92, 93, 94, 95, 96, 97, 98, 99, 100, 101, 102, 103, 104, 105, 106, 107] (by decide +kernel) (by decide +kernel)
set_option maxRecDepth 20000 in
theorem gX9_hill_X9_begins : GoodIn wsX9_hill (wsV RX9 39 RX9 yX9_begins wsX9_begins) := goodIn_app (goodIn_of _ (by decide +kernel)) ggX9_hill_X9_begins
set_option maxRecDepth 20000 in
theorem ggX9_hill_X9_advances : GoodIn wsX9_hill wsX9_advances := goodIn_r _ [20, 3, 21, 4, 5, 22, 23, 24, 12, 25, 8, 26, 27, 28, 29, 30, 31, 32, 33, 34, 35, 36, 37, 38, 39, 81, 82, 83, 84, 85, 86, 87, 88, 89, 90, 91, 92, 93, 94, 95, 96, 97, 98, 99, 100, 101, 102, 103, 104, 105, 106, 107] (by decide +kernel) (by decide +kernel)
set_option maxRecDepth 20000 in
theorem gX9_hill_X9_advances : GoodIn wsX9_hill (wsV RX9 94 RX9 yX9_advances wsX9_advances) := goodIn_app (goodIn_of _ (by decide +kernel)) ggX9_hill_X9_advances
set_option maxRecDepth 20000 in
theorem ggX9_hill_X9_isWell : GoodIn wsX9_hill wsX9_isWell := goodIn_r _ [43, 2, 81, 82, 83, 84, 85, 86, 87, 88, 89, 90, 91, 92, 93, 94, 95, 96, 97, 98, 99, 100, 101, 102, 103, 104, 105, 106, 107] (by decide +kernel) (by decide +kernel)
set_option maxRecDepth 20000 in
theorem gX9_hill_X9_isWell : GoodIn wsX9_hill (wsV RX9 90 RX9 yX9_isWell wsX9_isWell) := goodIn_app (goodIn_of _ (by decide +kernel)) ggX9_hill_X9_isWell
set_option maxRecDepth 20000 in
theorem ggX9_hill_X9_takes : GoodIn wsX9_hill wsX9_takes := goodIn_r _ [47, 21, 2, 5, 40, 41, 42, 12, 43, 17, 18, 19, 20, 3, 4, 22, 23, 24, 25, 8, 26, 27, 28, 29, 30, 31, 32, 33, 34, 35, 36, 37, 38, 39, 81, 82, 83, 84, 85, 86, 87, 88, 89, 90, 91, 92, 93, 94, 95, 96, 97, 98, 99, 100, 101, 102, 103, 104, 105, 106, 107] (by decide +kernel) (by decide +kernel)
set_option maxRecDepth 20000 in
theorem gX9_hill_X9_takes : GoodIn wsX9_hill (wsV RX9 97 RX9 yX9_takes wsX9_takes) := goodIn_app (goodIn_of _ (by decide +kernel)) ggX9_hill_X9_takes
set_option maxRecDepth 20000 in
theorem ggX9_hill_X9_readsItem : GoodIn wsX9_hill wsX9_readsItem := goodIn_r _ [51, 14, 15, 4, 5, 16, 6, 52, 7, 53, 54, 55, 56, 12, 57, 27, 28, 29, 44, 45, 46, 47, 21, 2, 40, 41, 42, 43, 17, 18, 19, 20, 3, 22, 23, 24, 25, 8, 26, 30, 31, 32, 33, 34, 35, 36, 37, 38, 39, 58, 59, 60, 61, 62, 63, 64, 65, 66, 67, 68, 69, 70, 81, 82, 83, 84, 85, 86, 87, 88, 89, 90, 91, 92, 93, 94, 95, 96, 97, 98, 99, 100, 101, 102, 103, 104, 105, 106, 107] (by decide +kernel) (by decide +kernel)
set_option maxRecDepth 20000 in
theorem gX9_hill_X9_readsItem : GoodIn wsX9_hill (wsV RX9 131 RX9 yX9_readsItem wsX9_readsItem) := goodIn_app (goodIn_of _ (by decide +kernel)) ggX9_hill_X9_readsItem
set_option maxRecDepth 20000 in
theorem ggX9_hill_X9_adopts : GoodIn wsX9_hill wsX9_adopts := goodIn_r _ [74, 14, 75, 15, 76, 6, 77, 7, 78, 79, 16, 52, 53, 80, 81, 82, 83, 84, 85, 86, 87, 88, 89, 90, 91, 92, 93, 94, 95, 96, 97, 98, 99, 100, 101, 102, 103, 104, 105, 106, 107] (by decide +kernel) (by decide +kernel)
set_option maxRecDepth 20000 in
theorem gX9_hill_X9_adopts : GoodIn wsX9_hill (wsV RX9 42 RX9 yX9_adopts wsX9_adopts) := goodIn_app (goodIn_of _ (by decide +kernel)) ggX9_hill_X9_adopts
theorem dX9_hill_0 : decode cX9_hill 0 = .ok (.aload_n 0, 1) := by decide +kernel
theorem dX9_hill_1 : decode cX9_hill 1 = .ok (.iconst 0, 1) := by decide +kernel
theorem dX9_hill_2 : decode cX9_hill 2 = .ok (.putfield 45, 3) := by decide +kernel
theorem dX9_hill_5 : decode cX9_hill 5 = .ok (.aload_n 0, 1) := by decide +kernel
theorem dX9_hill_6 : decode cX9_hill 6 = .ok (.iconst (-1), 1) := by decide +kernel
theorem dX9_hill_7 : decode cX9_hill 7 = .ok (.putfield 87, 3) := by decide +kernel
theorem dX9_hill_10 : decode cX9_hill 10 = .ok (.aload_n 0, 1) := by decide +kernel
theorem dX9_hill_11 : decode cX9_hill 11 = .ok (.iconst 0, 1) := by decide +kernel
theorem dX9_hill_12 : decode cX9_hill 12 = .ok (.putfield 67, 3) := by decide +kernel
theorem dX9_hill_15 : decode cX9_hill 15 = .ok (.iconst 0, 1) := by decide +kernel
theorem dX9_hill_16 : decode cX9_hill 16 = .ok (.istore_n 1, 1) := by decide +kernel
theorem dX9_hill_17 : decode cX9_hill 17 = .ok (.aload_n 0, 1) := by decide +kernel
theorem dX9_hill_18 : decode cX9_hill 18 = .ok (.invokevirtual 39, 3) := by decide +kernel
theorem dX9_hill_21 : decode cX9_hill 21 = .ok (.aload_n 0, 1) := by decide +kernel
theorem dX9_hill_22 : decode cX9_hill 22 = .ok (.invokevirtual 94, 3) := by decide +kernel
theorem dX9_hill_25 : decode cX9_hill 25 = .ok (.aload_n 0, 1) := by decide +kernel
theorem dX9_hill_26 : decode cX9_hill 26 = .ok (.invokevirtual 90, 3) := by decide +kernel
theorem dX9_hill_29 : decode cX9_hill 29 = .ok (.ifCond .eq 151, 3) := by decide +kernel
theorem dX9_hill_32 : decode cX9_hill 32 = .ok (.aload_n 0, 1) := by decide +kernel
theorem dX9_hill_33 : decode cX9_hill 33 = .ok (.getfield 77, 3) := by decide +kernel
theorem dX9_hill_36 : decode cX9_hill 36 = .ok (.ifCond .eq 144, 3) := by decide +kernel
theorem dX9_hill_39 : decode cX9_hill 39 = .ok (.aload_n 0, 1) := by decide +kernel
theorem dX9_hill_40 : decode cX9_hill 40 = .ok (.getfield 84, 3) := by decide +kernel
theorem dX9_hill_43 : decode cX9_hill 43 = .ok (.ifCond .ne 15, 3) := by decide +kernel
theorem dX9_hill_46 : decode cX9_hill 46 = .ok (.iload_n 1, 1) := by decide +kernel
theorem dX9_hill_47 : decode cX9_hill 47 = .ok (.ifCond .ne 7, 3) := by decide +kernel
theorem dX9_hill_50 : decode cX9_hill 50 = .ok (.iconst 1, 1) := by decide +kernel
theorem dX9_hill_51 : decode cX9_hill 51 = .ok (.goto 70, 3) := by decide +kernel
theorem dX9_hill_54 : decode cX9_hill 54 = .ok (.iconst 0, 1) := by decide +kernel
theorem dX9_hill_55 : decode cX9_hill 55 = .ok (.goto 66, 3) := by decide +kernel
theorem dX9_hill_58 : decode cX9_hill 58 = .ok (.aload_n 0, 1) := by decide +kernel
theorem dX9_hill_59 : decode cX9_hill 59 = .ok (.getfield 84, 3) := by decide +kernel
theorem dX9_hill_62 : decode cX9_hill 62 = .ok (.iconst 4, 1) := by decide +kernel
theorem dX9_hill_63 : decode cX9_hill 63 = .ok (.if_icmp .ne 20, 3) := by decide +kernel
theorem dX9_hill_66 : decode cX9_hill 66 = .ok (.aload_n 0, 1) := by decide +kernel
theorem dX9_hill_67 : decode cX9_hill 67 = .ok (.getfield 111, 3) := by decide +kernel
theorem dX9_hill_70 : decode cX9_hill 70 = .ok (.bipush 6, 2) := by decide +kernel
theorem dX9_hill_72 : decode cX9_hill 72 = .ok (.if_icmp .ge 7, 3) := by decide +kernel
theorem dX9_hill_75 : decode cX9_hill 75 = .ok (.iconst 1, 1) := by decide +kernel
theorem dX9_hill_76 : decode cX9_hill 76 = .ok (.goto 45, 3) := by decide +kernel
theorem dX9_hill_79 : decode cX9_hill 79 = .ok (.iconst 0, 1) := by decide +kernel
theorem dX9_hill_80 : decode cX9_hill 80 = .ok (.goto 41, 3) := by decide +kernel
theorem dX9_hill_83 : decode cX9_hill 83 = .ok (.aload_n 0, 1) := by decide +kernel
theorem dX9_hill_84 : decode cX9_hill 84 = .ok (.getfield 84, 3) := by decide +kernel
theorem dX9_hill_87 : decode cX9_hill 87 = .ok (.iconst 5, 1) := by decide +kernel
theorem dX9_hill_88 : decode cX9_hill 88 = .ok (.if_icmp .ne 20, 3) := by decide +kernel
theorem dX9_hill_91 : decode cX9_hill 91 = .ok (.aload_n 0, 1) := by decide +kernel
theorem dX9_hill_92 : decode cX9_hill 92 = .ok (.getfield 114, 3) := by decide +kernel
theorem dX9_hill_95 : decode cX9_hill 95 = .ok (.bipush 8, 2) := by decide +kernel
theorem dX9_hill_97 : decode cX9_hill 97 = .ok (.if_icmp .ge 7, 3) := by decide +kernel
theorem dX9_hill_100 : decode cX9_hill 100 = .ok (.iconst 1, 1) := by decide +kernel
theorem dX9_hill_101 : decode cX9_hill 101 = .ok (.goto 20, 3) := by decide +kernel
theorem dX9_hill_104 : decode cX9_hill 104 = .ok (.iconst 0, 1) := by decide +kernel
theorem dX9_hill_105 : decode cX9_hill 105 = .ok (.goto 16, 3) := by decide +kernel
theorem dX9_hill_108 : decode cX9_hill 108 = .ok (.aload_n 0, 1) := by decide +kernel
theorem dX9_hill_109 : decode cX9_hill 109 = .ok (.getfield 84, 3) := by decide +kernel
theorem dX9_hill_112 : decode cX9_hill 112 = .ok (.iconst 3, 1) := by decide +kernel
theorem dX9_hill_113 : decode cX9_hill 113 = .ok (.if_icmp .gt 7, 3) := by decide +kernel
theorem dX9_hill_116 : decode cX9_hill 116 = .ok (.iconst 1, 1) := by decide +kernel
theorem dX9_hill_117 : decode cX9_hill 117 = .ok (.goto 4, 3) := by decide +kernel
theorem dX9_hill_120 : decode cX9_hill 120 = .ok (.iconst 0, 1) := by decide +kernel
theorem dX9_hill_121 : decode cX9_hill 121 = .ok (.istore_n 2, 1) := by decide +kernel
theorem dX9_hill_122 : decode cX9_hill 122 = .ok (.aload_n 0, 1) := by decide +kernel
theorem dX9_hill_123 : decode cX9_hill 123 = .ok (.aload_n 0, 1) := by decide +kernel
theorem dX9_hill_124 : decode cX9_hill 124 = .ok (.getfield 77, 3) := by decide +kernel
theorem dX9_hill_127 : decode cX9_hill 127 = .ok (.iconst 1, 1) := by decide +kernel
theorem dX9_hill_128 : decode cX9_hill 128 = .ok (.if_icmp .ne 11, 3) := by decide +kernel
theorem dX9_hill_131 : decode cX9_hill 131 = .ok (.iload_n 2, 1) := by decide +kernel
theorem dX9_hill_132 : decode cX9_hill 132 = .ok (.ifCond .eq 7, 3) := by decide +kernel
theorem dX9_hill_135 : decode cX9_hill 135 = .ok (.iconst 1, 1) := by decide +kernel
theorem dX9_hill_136 : decode cX9_hill 136 = .ok (.goto 4, 3) := by decide +kernel
theorem dX9_hill_139 : decode cX9_hill 139 = .ok (.iconst 0, 1) := by decide +kernel
theorem dX9_hill_140 : decode cX9_hill 140 = .ok (.invokevirtual 97, 3) := by decide +kernel
theorem dX9_hill_143 : decode cX9_hill 143 = .ok (.istore_n 3, 1) := by decide +kernel
theorem dX9_hill_144 : decode cX9_hill 144 = .ok (.aload_n 0, 1) := by decide +kernel
theorem dX9_hill_145 : decode cX9_hill 145 = .ok (.invokevirtual 90, 3) := by decide +kernel
theorem dX9_hill_148 : decode cX9_hill 148 = .ok (.ifCond .eq 8, 3) := by decide +kernel
theorem dX9_hill_151 : decode cX9_hill 151 = .ok (.aload_n 0, 1) := by decide +kernel
theorem dX9_hill_152 : decode cX9_hill 152 = .ok (.iload_n 3, 1) := by decide +kernel
theorem dX9_hill_153 : decode cX9_hill 153 = .ok (.invokevirtual 131, 3) := by decide +kernel
theorem dX9_hill_156 : decode cX9_hill 156 = .ok (.aload_n 0, 1) := by decide +kernel
theorem dX9_hill_157 : decode cX9_hill 157 = .ok (.aload_n 0, 1) := by decide +kernel
theorem dX9_hill_158 : decode cX9_hill 158 = .ok (.getfield 77, 3) := by decide +kernel
theorem dX9_hill_161 : decode cX9_hill 161 = .ok (.iconst 3, 1) := by decide +kernel
theorem dX9_hill_162 : decode cX9_hill 162 = .ok (.if_icmp .ne 7, 3) := by decide +kernel
theorem dX9_hill_165 : decode cX9_hill 165 = .ok (.iconst 1, 1) := by decide +kernel
theorem dX9_hill_166 : decode cX9_hill 166 = .ok (.goto 4, 3) := by decide +kernel
theorem dX9_hill_169 : decode cX9_hill 169 = .ok (.iconst 0, 1) := by decide +kernel
theorem dX9_hill_170 : decode cX9_hill 170 = .ok (.invokevirtual 97, 3) := by decide +kernel
theorem dX9_hill_173 : decode cX9_hill 173 = .ok (.pop, 1) := by decide +kernel
theorem dX9_hill_174 : decode cX9_hill 174 = .ok (.iinc 1 1, 3) := by decide +kernel
theorem dX9_hill_177 : decode cX9_hill 177 = .ok (.goto (-152), 3) := by decide +kernel
theorem dX9_hill_180 : decode cX9_hill 180 = .ok (.aload_n 0, 1) := by decide +kernel
theorem dX9_hill_181 : decode cX9_hill 181 = .ok (.invokevirtual 90, 3) := by decide +kernel
theorem dX9_hill_184 : decode cX9_hill 184 = .ok (.ifCond .ne 11, 3) := by decide +kernel
theorem dX9_hill_187 : decode cX9_hill 187 = .ok (.bipush (-10), 2) := by decide +kernel
theorem dX9_hill_189 : decode cX9_hill 189 = .ok (.aload_n 0, 1) := by decide +kernel
theorem dX9_hill_190 : decode cX9_hill 190 = .ok (.getfield 87, 3) := by decide +kernel
theorem dX9_hill_193 : decode cX9_hill 193 = .ok (.isub, 1) := by decide +kernel
theorem dX9_hill_194 : decode cX9_hill 194 = .ok (.ireturn, 1) := by decide +kernel
theorem dX9_hill_195 : decode cX9_hill 195 = .ok (.aload_n 0, 1) := by decide +kernel
theorem dX9_hill_196 : decode cX9_hill 196 = .ok (.invokevirtual 42, 3) := by decide +kernel
theorem dX9_hill_199 : decode cX9_hill 199 = .ok (.aload_n 0, 1) := by decide +kernel
theorem dX9_hill_200 : decode cX9_hill 200 = .ok (.iconst 0, 1) := by decide +kernel
theorem dX9_hill_201 : decode cX9_hill 201 = .ok (.putfield 52, 3) := by decide +kernel
theorem dX9_hill_204 : decode cX9_hill 204 = .ok (.iload_n 1, 1) := by decide +kernel
theorem dX9_hill_205 : decode cX9_hill 205 = .ok (.ireturn, 1) := by decide +kernel
theorem dX9_adopts_0 : decode cX9_adopts 0 = .ok (.aload_n 0, 1) := by decide +kernel
theorem dX9_adopts_1 : decode cX9_adopts 1 = .ok (.aload_n 0, 1) := by decide +kernel
theorem dX9_adopts_2 : decode cX9_adopts 2 = .ok (.getfield 105, 3) := by decide +kernel
theorem dX9_adopts_5 : decode cX9_adopts 5 = .ok (.putfield 134, 3) := by decide +kernel
theorem dX9_adopts_8 : decode cX9_adopts 8 = .ok (.aload_n 0, 1) := by decide +kernel
theorem dX9_adopts_9 : decode cX9_adopts 9 = .ok (.aload_n 0, 1) := by decide +kernel
theorem dX9_adopts_10 : decode cX9_adopts 10 = .ok (.getfield 108, 3) := by decide +kernel
theorem dX9_adopts_13 : decode cX9_adopts 13 = .ok (.putfield 137, 3) := by decide +kernel
theorem dX9_adopts_16 : decode cX9_adopts 16 = .ok (.aload_n 0, 1) := by decide +kernel
theorem dX9_adopts_17 : decode cX9_adopts 17 = .ok (.aload_n 0, 1) := by decide +kernel
theorem dX9_adopts_18 : decode cX9_adopts 18 = .ok (.getfield 111, 3) := by decide +kernel
theorem dX9_adopts_21 : decode cX9_adopts 21 = .ok (.putfield 140, 3) := by decide +kernel
theorem dX9_adopts_24 : decode cX9_adopts 24 = .ok (.aload_n 0, 1) := by decide +kernel
theorem dX9_adopts_25 : decode cX9_adopts 25 = .ok (.aload_n 0, 1) := by decide +kernel
theorem dX9_adopts_26 : decode cX9_adopts 26 = .ok (.getfield 114, 3) := by decide +kernel
theorem dX9_adopts_29 : decode cX9_adopts 29 = .ok (.putfield 143, 3) := by decide +kernel
theorem dX9_adopts_32 : decode cX9_adopts 32 = .ok (.iconst 0, 1) := by decide +kernel
theorem dX9_adopts_33 : decode cX9_adopts 33 = .ok (.istore_n 1, 1) := by decide +kernel
theorem dX9_adopts_34 : decode cX9_adopts 34 = .ok (.iload_n 1, 1) := by decide +kernel
theorem dX9_adopts_35 : decode cX9_adopts 35 = .ok (.sipush 207, 3) := by decide +kernel
theorem dX9_adopts_38 : decode cX9_adopts 38 = .ok (.if_icmp .ge 21, 3) := by decide +kernel
theorem dX9_adopts_41 : decode cX9_adopts 41 = .ok (.aload_n 0, 1) := by decide +kernel
theorem dX9_adopts_42 : decode cX9_adopts 42 = .ok (.getfield 13, 3) := by decide +kernel
theorem dX9_adopts_45 : decode cX9_adopts 45 = .ok (.iload_n 1, 1) := by decide +kernel
theorem dX9_adopts_46 : decode cX9_adopts 46 = .ok (.aload_n 0, 1) := by decide +kernel
theorem dX9_adopts_47 : decode cX9_adopts 47 = .ok (.getfield 16, 3) := by decide +kernel
theorem dX9_adopts_50 : decode cX9_adopts 50 = .ok (.iload_n 1, 1) := by decide +kernel
theorem dX9_adopts_51 : decode cX9_adopts 51 = .ok (.iaload, 1) := by decide +kernel
theorem dX9_adopts_52 : decode cX9_adopts 52 = .ok (.iastore, 1) := by decide +kernel
theorem dX9_adopts_53 : decode cX9_adopts 53 = .ok (.iinc 1 1, 3) := by decide +kernel
theorem dX9_adopts_56 : decode cX9_adopts 56 = .ok (.goto (-22), 3) := by decide +kernel
theorem dX9_adopts_59 : decode cX9_adopts 59 = .ok (.iconst 0, 1) := by decide +kernel
theorem dX9_adopts_60 : decode cX9_adopts 60 = .ok (.istore_n 1, 1) := by decide +kernel
theorem dX9_adopts_61 : decode cX9_adopts 61 = .ok (.iload_n 1, 1) := by decide +kernel
theorem dX9_adopts_62 : decode cX9_adopts 62 = .ok (.bipush 24, 2) := by decide +kernel
theorem dX9_adopts_64 : decode cX9_adopts 64 = .ok (.if_icmp .ge 24, 3) := by decide +kernel
theorem dX9_adopts_67 : decode cX9_adopts 67 = .ok (.aload_n 0, 1) := by decide +kernel
theorem dX9_adopts_68 : decode cX9_adopts 68 = .ok (.getfield 26, 3) := by decide +kernel
theorem dX9_adopts_71 : decode cX9_adopts 71 = .ok (.iload_n 1, 1) := by decide +kernel
theorem dX9_adopts_72 : decode cX9_adopts 72 = .ok (.aload_n 0, 1) := by decide +kernel
theorem dX9_adopts_73 : decode cX9_adopts 73 = .ok (.getfield 26, 3) := by decide +kernel
theorem dX9_adopts_76 : decode cX9_adopts 76 = .ok (.bipush 24, 2) := by decide +kernel
theorem dX9_adopts_78 : decode cX9_adopts 78 = .ok (.iload_n 1, 1) := by decide +kernel
theorem dX9_adopts_79 : decode cX9_adopts 79 = .ok (.iadd, 1) := by decide +kernel
theorem dX9_adopts_80 : decode cX9_adopts 80 = .ok (.iaload, 1) := by decide +kernel
theorem dX9_adopts_81 : decode cX9_adopts 81 = .ok (.iastore, 1) := by decide +kernel
theorem dX9_adopts_82 : decode cX9_adopts 82 = .ok (.iinc 1 1, 3) := by decide +kernel
theorem dX9_adopts_85 : decode cX9_adopts 85 = .ok (.goto (-24), 3) := by decide +kernel
theorem dX9_adopts_88 : decode cX9_adopts 88 = .ok (.iconst 0, 1) := by decide +kernel
theorem dX9_adopts_89 : decode cX9_adopts 89 = .ok (.istore_n 1, 1) := by decide +kernel
theorem dX9_adopts_90 : decode cX9_adopts 90 = .ok (.iload_n 1, 1) := by decide +kernel
theorem dX9_adopts_91 : decode cX9_adopts 91 = .ok (.bipush 40, 2) := by decide +kernel
theorem dX9_adopts_93 : decode cX9_adopts 93 = .ok (.if_icmp .ge 24, 3) := by decide +kernel
theorem dX9_adopts_96 : decode cX9_adopts 96 = .ok (.aload_n 0, 1) := by decide +kernel
theorem dX9_adopts_97 : decode cX9_adopts 97 = .ok (.getfield 29, 3) := by decide +kernel
theorem dX9_adopts_100 : decode cX9_adopts 100 = .ok (.iload_n 1, 1) := by decide +kernel
theorem dX9_adopts_101 : decode cX9_adopts 101 = .ok (.aload_n 0, 1) := by decide +kernel
theorem dX9_adopts_102 : decode cX9_adopts 102 = .ok (.getfield 29, 3) := by decide +kernel
theorem dX9_adopts_105 : decode cX9_adopts 105 = .ok (.bipush 40, 2) := by decide +kernel
theorem dX9_adopts_107 : decode cX9_adopts 107 = .ok (.iload_n 1, 1) := by decide +kernel
theorem dX9_adopts_108 : decode cX9_adopts 108 = .ok (.iadd, 1) := by decide +kernel
theorem dX9_adopts_109 : decode cX9_adopts 109 = .ok (.iaload, 1) := by decide +kernel
theorem dX9_adopts_110 : decode cX9_adopts 110 = .ok (.iastore, 1) := by decide +kernel
theorem dX9_adopts_111 : decode cX9_adopts 111 = .ok (.iinc 1 1, 3) := by decide +kernel
theorem dX9_adopts_114 : decode cX9_adopts 114 = .ok (.goto (-24), 3) := by decide +kernel
theorem dX9_adopts_117 : decode cX9_adopts 117 = .ok (.aload_n 0, 1) := by decide +kernel
theorem dX9_adopts_118 : decode cX9_adopts 118 = .ok (.getfield 22, 3) := by decide +kernel
theorem dX9_adopts_121 : decode cX9_adopts 121 = .ok (.iconst 0, 1) := by decide +kernel
theorem dX9_adopts_122 : decode cX9_adopts 122 = .ok (.iconst 0, 1) := by decide +kernel
theorem dX9_adopts_123 : decode cX9_adopts 123 = .ok (.bastore, 1) := by decide +kernel
theorem dX9_adopts_124 : decode cX9_adopts 124 = .ok (.aload_n 0, 1) := by decide +kernel
theorem dX9_adopts_125 : decode cX9_adopts 125 = .ok (.getfield 22, 3) := by decide +kernel
theorem dX9_adopts_128 : decode cX9_adopts 128 = .ok (.iconst 1, 1) := by decide +kernel
theorem dX9_adopts_129 : decode cX9_adopts 129 = .ok (.iconst 0, 1) := by decide +kernel
theorem dX9_adopts_130 : decode cX9_adopts 130 = .ok (.bastore, 1) := by decide +kernel
theorem dX9_adopts_131 : decode cX9_adopts 131 = .ok (.return_, 1) := by decide +kernel
set_option maxRecDepth 20000 in
theorem ggX9_isYard_X9_in : GoodIn wsX9_isYard wsX9_in := goodIn_r _ [6] (by decide +kernel) (by decide +kernel)
set_option maxRecDepth 20000 in
theorem gX9_isYard_X9_in : GoodIn wsX9_isYard (va_wsS RX9 48 yX9_in wsX9_in) := goodIn_app (goodIn_of _ (by decide +kernel)) ggX9_isYard_X9_in
theorem dX9_isYard_0 : decode cX9_isYard 0 = .ok (.iload_n 1, 1) := by decide +kernel
theorem dX9_isYard_1 : decode cX9_isYard 1 = .ok (.iconst 0, 1) := by decide +kernel
theorem dX9_isYard_2 : decode cX9_isYard 2 = .ok (.aload_n 0, 1) := by decide +kernel
theorem dX9_isYard_3 : decode cX9_isYard 3 = .ok (.getfield 134, 3) := by decide +kernel
theorem dX9_isYard_6 : decode cX9_isYard 6 = .ok (.aload_n 0, 1) := by decide +kernel
theorem dX9_isYard_7 : decode cX9_isYard 7 = .ok (.getfield 137, 3) := by decide +kernel
theorem dX9_isYard_10 : decode cX9_isYard 10 = .ok (.imul, 1) := by decide +kernel
theorem dX9_isYard_11 : decode cX9_isYard 11 = .ok (.iconst 1, 1) := by decide +kernel
theorem dX9_isYard_12 : decode cX9_isYard 12 = .ok (.isub, 1) := by decide +kernel
theorem dX9_isYard_13 : decode cX9_isYard 13 = .ok (.invokestatic 48, 3) := by decide +kernel
theorem dX9_isYard_16 : decode cX9_isYard 16 = .ok (.ireturn, 1) := by decide +kernel
set_option maxRecDepth 20000 in
theorem ggX9_isWorker_X9_in : GoodIn wsX9_isWorker wsX9_in := goodIn_r _ [5] (by decide +kernel) (by decide +kernel)
set_option maxRecDepth 20000 in
theorem gX9_isWorker_X9_in : GoodIn wsX9_isWorker (va_wsS RX9 48 yX9_in wsX9_in) := goodIn_app (goodIn_of _ (by decide +kernel)) ggX9_isWorker_X9_in
theorem dX9_isWorker_0 : decode cX9_isWorker 0 = .ok (.iload_n 1, 1) := by decide +kernel
theorem dX9_isWorker_1 : decode cX9_isWorker 1 = .ok (.iconst 0, 1) := by decide +kernel
theorem dX9_isWorker_2 : decode cX9_isWorker 2 = .ok (.aload_n 0, 1) := by decide +kernel
theorem dX9_isWorker_3 : decode cX9_isWorker 3 = .ok (.getfield 140, 3) := by decide +kernel
theorem dX9_isWorker_6 : decode cX9_isWorker 6 = .ok (.iconst 1, 1) := by decide +kernel
theorem dX9_isWorker_7 : decode cX9_isWorker 7 = .ok (.isub, 1) := by decide +kernel
theorem dX9_isWorker_8 : decode cX9_isWorker 8 = .ok (.invokestatic 48, 3) := by decide +kernel
theorem dX9_isWorker_11 : decode cX9_isWorker 11 = .ok (.ireturn, 1) := by decide +kernel
set_option maxRecDepth 20000 in
theorem ggX9_areNeighbours_X9_isYard : GoodIn wsX9_areNeighbours wsX9_isYard := goodIn_r _ [6, 1, 7, 8, 9, 5, 10, 17, 18, 19, 20, 21, 22, 23, 24, 25, 26, 27, 28, 29, 30, 31, 32, 33, 34, 35, 36, 37, 38, 39, 40, 41, 42, 43] (by decide +kernel) (by decide +kernel)
set_option maxRecDepth 20000 in
theorem gX9_areNeighbours_X9_isYard : GoodIn wsX9_areNeighbours (wsV RX9 146 RX9 yX9_isYard wsX9_isYard) := goodIn_app (goodIn_of _ (by decide +kernel)) ggX9_areNeighbours_X9_isYard
set_option maxRecDepth 20000 in
theorem ggX9_areNeighbours_X9_areBeside : GoodIn wsX9_areNeighbours wsX9_areBeside := goodIn_r _ [13, 14, 15, 5, 16] (by decide +kernel) (by decide +kernel)
set_option maxRecDepth 20000 in
theorem gX9_areNeighbours_X9_areBeside : GoodIn wsX9_areNeighbours (va_wsS RX9 120 yX9_areBeside wsX9_areBeside) := goodIn_app (goodIn_of _ (by decide +kernel)) ggX9_areNeighbours_X9_areBeside
theorem dX9_areNeighbours_0 : decode cX9_areNeighbours 0 = .ok (.aload_n 0, 1) := by decide +kernel
theorem dX9_areNeighbours_1 : decode cX9_areNeighbours 1 = .ok (.iload_n 1, 1) := by decide +kernel
theorem dX9_areNeighbours_2 : decode cX9_areNeighbours 2 = .ok (.invokevirtual 146, 3) := by decide +kernel
theorem dX9_areNeighbours_5 : decode cX9_areNeighbours 5 = .ok (.ifCond .eq 27, 3) := by decide +kernel
theorem dX9_areNeighbours_8 : decode cX9_areNeighbours 8 = .ok (.aload_n 0, 1) := by decide +kernel
theorem dX9_areNeighbours_9 : decode cX9_areNeighbours 9 = .ok (.iload_n 2, 1) := by decide +kernel
theorem dX9_areNeighbours_10 : decode cX9_areNeighbours 10 = .ok (.invokevirtual 146, 3) := by decide +kernel
theorem dX9_areNeighbours_13 : decode cX9_areNeighbours 13 = .ok (.ifCond .eq 19, 3) := by decide +kernel
theorem dX9_areNeighbours_16 : decode cX9_areNeighbours 16 = .ok (.iload_n 1, 1) := by decide +kernel
theorem dX9_areNeighbours_17 : decode cX9_areNeighbours 17 = .ok (.iload_n 2, 1) := by decide +kernel
theorem dX9_areNeighbours_18 : decode cX9_areNeighbours 18 = .ok (.aload_n 0, 1) := by decide +kernel
theorem dX9_areNeighbours_19 : decode cX9_areNeighbours 19 = .ok (.getfield 134, 3) := by decide +kernel
theorem dX9_areNeighbours_22 : decode cX9_areNeighbours 22 = .ok (.invokestatic 120, 3) := by decide +kernel
theorem dX9_areNeighbours_25 : decode cX9_areNeighbours 25 = .ok (.ifCond .eq 7, 3) := by decide +kernel
theorem dX9_areNeighbours_28 : decode cX9_areNeighbours 28 = .ok (.iconst 1, 1) := by decide +kernel
theorem dX9_areNeighbours_29 : decode cX9_areNeighbours 29 = .ok (.goto 4, 3) := by decide +kernel
theorem dX9_areNeighbours_32 : decode cX9_areNeighbours 32 = .ok (.iconst 0, 1) := by decide +kernel
theorem dX9_areNeighbours_33 : decode cX9_areNeighbours 33 = .ok (.ireturn, 1) := by decide +kernel
set_option maxRecDepth 20000 in
theorem ggX9_between_X9_areNeighbours : GoodIn wsX9_between wsX9_areNeighbours := goodIn_r _ [8, 3, 9, 10, 11, 7, 12, 13, 14, 15, 16, 17, 18, 19, 20, 21, 22, 26, 27, 28, 29, 30, 31, 32, 33, 34, 35, 36, 37, 38, 39, 40, 41, 42, 43, 44, 45, 46, 47, 48, 49, 50, 51, 52] (by decide +kernel) (by decide +kernel)
set_option maxRecDepth 20000 in
theorem gX9_between_X9_areNeighbours : GoodIn wsX9_between (wsV RX9 150 RX9 yX9_areNeighbours wsX9_areNeighbours) := goodIn_app (goodIn_of _ (by decide +kernel)) ggX9_between_X9_areNeighbours
set_option maxRecDepth 20000 in
theorem ggX9_between_X9_in : GoodIn wsX9_between wsX9_in := goodIn_r _ [16] (by decide +kernel) (by decide +kernel)
set_option maxRecDepth 20000 in
theorem gX9_between_X9_in : GoodIn wsX9_between (va_wsS RX9 48 yX9_in wsX9_in) := goodIn_app (goodIn_of _ (by decide +kernel)) ggX9_between_X9_in
set_option maxRecDepth 20000 in
theorem ggX9_between_X9_spotOf : GoodIn wsX9_between wsX9_spotOf := goodIn_r _ [25, 20, 21, 7, 22] (by decide +kernel) (by decide +kernel)
set_option maxRecDepth 20000 in
theorem gX9_between_X9_spotOf : GoodIn wsX9_between (va_wsS RX9 123 yX9_spotOf wsX9_spotOf) := goodIn_app (goodIn_of _ (by decide +kernel)) ggX9_between_X9_spotOf
theorem dX9_between_0 : decode cX9_between 0 = .ok (.aload_n 0, 1) := by decide +kernel
theorem dX9_between_1 : decode cX9_between 1 = .ok (.iconst 0, 1) := by decide +kernel
theorem dX9_between_2 : decode cX9_between 2 = .ok (.putfield 45, 3) := by decide +kernel
theorem dX9_between_5 : decode cX9_between 5 = .ok (.aload_n 0, 1) := by decide +kernel
theorem dX9_between_6 : decode cX9_between 6 = .ok (.iload_n 1, 1) := by decide +kernel
theorem dX9_between_7 : decode cX9_between 7 = .ok (.iload_n 2, 1) := by decide +kernel
theorem dX9_between_8 : decode cX9_between 8 = .ok (.invokevirtual 150, 3) := by decide +kernel
theorem dX9_between_11 : decode cX9_between 11 = .ok (.ifCond .eq 39, 3) := by decide +kernel
theorem dX9_between_14 : decode cX9_between 14 = .ok (.iload_n 3, 1) := by decide +kernel
theorem dX9_between_15 : decode cX9_between 15 = .ok (.iconst 0, 1) := by decide +kernel
theorem dX9_between_16 : decode cX9_between 16 = .ok (.iconst 1, 1) := by decide +kernel
theorem dX9_between_17 : decode cX9_between 17 = .ok (.invokestatic 48, 3) := by decide +kernel
theorem dX9_between_20 : decode cX9_between 20 = .ok (.ifCond .eq 30, 3) := by decide +kernel
theorem dX9_between_23 : decode cX9_between 23 = .ok (.aload_n 0, 1) := by decide +kernel
theorem dX9_between_24 : decode cX9_between 24 = .ok (.getfield 13, 3) := by decide +kernel
theorem dX9_between_27 : decode cX9_between 27 = .ok (.iload_n 1, 1) := by decide +kernel
theorem dX9_between_28 : decode cX9_between 28 = .ok (.iload_n 2, 1) := by decide +kernel
theorem dX9_between_29 : decode cX9_between 29 = .ok (.aload_n 0, 1) := by decide +kernel
theorem dX9_between_30 : decode cX9_between 30 = .ok (.getfield 134, 3) := by decide +kernel
theorem dX9_between_33 : decode cX9_between 33 = .ok (.iload_n 3, 1) := by decide +kernel
theorem dX9_between_34 : decode cX9_between 34 = .ok (.ifCond .ne 7, 3) := by decide +kernel
theorem dX9_between_37 : decode cX9_between 37 = .ok (.iconst 0, 1) := by decide +kernel
theorem dX9_between_38 : decode cX9_between 38 = .ok (.goto 5, 3) := by decide +kernel
theorem dX9_between_41 : decode cX9_between 41 = .ok (.bipush 96, 2) := by decide +kernel
theorem dX9_between_43 : decode cX9_between 43 = .ok (.invokestatic 123, 3) := by decide +kernel
theorem dX9_between_46 : decode cX9_between 46 = .ok (.iaload, 1) := by decide +kernel
theorem dX9_between_47 : decode cX9_between 47 = .ok (.goto 4, 3) := by decide +kernel
theorem dX9_between_50 : decode cX9_between 50 = .ok (.iconst (-1), 1) := by decide +kernel
theorem dX9_between_51 : decode cX9_between 51 = .ok (.ireturn, 1) := by decide +kernel
set_option maxRecDepth 20000 in
theorem ggX9_build_X9_areNeighbours : GoodIn wsX9_build wsX9_areNeighbours := goodIn_r _ [8, 2, 9, 10, 11, 7, 12, 13, 14, 15, 16, 17, 18, 19, 20, 21, 22, 26, 27, 28, 29, 30, 31, 32, 33, 34, 35, 36, 37, 38, 39, 40, 41, 42, 43, 44, 45, 46, 47, 48, 49, 50, 51, 52] (by decide +kernel) (by decide +kernel)
set_option maxRecDepth 20000 in
theorem gX9_build_X9_areNeighbours : GoodIn wsX9_build (wsV RX9 150 RX9 yX9_areNeighbours wsX9_areNeighbours) := goodIn_app (goodIn_of _ (by decide +kernel)) ggX9_build_X9_areNeighbours
set_option maxRecDepth 20000 in
theorem ggX9_build_X9_in : GoodIn wsX9_build wsX9_in := goodIn_r _ [16] (by decide +kernel) (by decide +kernel)
set_option maxRecDepth 20000 in
theorem gX9_build_X9_in : GoodIn wsX9_build (va_wsS RX9 48 yX9_in wsX9_in) := goodIn_app (goodIn_of _ (by decide +kernel)) ggX9_build_X9_in
set_option maxRecDepth 20000 in
theorem ggX9_build_X9_spotOf : GoodIn wsX9_build wsX9_spotOf := goodIn_r _ [25, 20, 21, 7, 22] (by decide +kernel) (by decide +kernel)
set_option maxRecDepth 20000 in
theorem gX9_build_X9_spotOf : GoodIn wsX9_build (va_wsS RX9 123 yX9_spotOf wsX9_spotOf) := goodIn_app (goodIn_of _ (by decide +kernel)) ggX9_build_X9_spotOf
theorem dX9_build_0 : decode cX9_build 0 = .ok (.aload_n 0, 1) := by decide +kernel
theorem dX9_build_1 : decode cX9_build 1 = .ok (.iconst 0, 1) := by decide +kernel
theorem dX9_build_2 : decode cX9_build 2 = .ok (.putfield 45, 3) := by decide +kernel
theorem dX9_build_5 : decode cX9_build 5 = .ok (.aload_n 0, 1) := by decide +kernel
theorem dX9_build_6 : decode cX9_build 6 = .ok (.iload_n 1, 1) := by decide +kernel
theorem dX9_build_7 : decode cX9_build 7 = .ok (.iload_n 2, 1) := by decide +kernel
theorem dX9_build_8 : decode cX9_build 8 = .ok (.invokevirtual 150, 3) := by decide +kernel
theorem dX9_build_11 : decode cX9_build 11 = .ok (.ifCond .eq 31, 3) := by decide +kernel
theorem dX9_build_14 : decode cX9_build 14 = .ok (.iload_n 3, 1) := by decide +kernel
theorem dX9_build_15 : decode cX9_build 15 = .ok (.iconst 0, 1) := by decide +kernel
theorem dX9_build_16 : decode cX9_build 16 = .ok (.iconst 1, 1) := by decide +kernel
theorem dX9_build_17 : decode cX9_build 17 = .ok (.invokestatic 48, 3) := by decide +kernel
theorem dX9_build_20 : decode cX9_build 20 = .ok (.ifCond .eq 22, 3) := by decide +kernel
theorem dX9_build_23 : decode cX9_build 23 = .ok (.iload 4, 2) := by decide +kernel
theorem dX9_build_25 : decode cX9_build 25 = .ok (.iconst 0, 1) := by decide +kernel
theorem dX9_build_26 : decode cX9_build 26 = .ok (.iload_n 3, 1) := by decide +kernel
theorem dX9_build_27 : decode cX9_build 27 = .ok (.ifCond .ne 7, 3) := by decide +kernel
theorem dX9_build_30 : decode cX9_build 30 = .ok (.iconst 3, 1) := by decide +kernel
theorem dX9_build_31 : decode cX9_build 31 = .ok (.goto 5, 3) := by decide +kernel
theorem dX9_build_34 : decode cX9_build 34 = .ok (.bipush 9, 2) := by decide +kernel
theorem dX9_build_36 : decode cX9_build 36 = .ok (.invokestatic 48, 3) := by decide +kernel
theorem dX9_build_39 : decode cX9_build 39 = .ok (.ifCond .ne 5, 3) := by decide +kernel
theorem dX9_build_42 : decode cX9_build 42 = .ok (.iconst (-1), 1) := by decide +kernel
theorem dX9_build_43 : decode cX9_build 43 = .ok (.ireturn, 1) := by decide +kernel
theorem dX9_build_44 : decode cX9_build 44 = .ok (.iload_n 1, 1) := by decide +kernel
theorem dX9_build_45 : decode cX9_build 45 = .ok (.iload_n 2, 1) := by decide +kernel
theorem dX9_build_46 : decode cX9_build 46 = .ok (.aload_n 0, 1) := by decide +kernel
theorem dX9_build_47 : decode cX9_build 47 = .ok (.getfield 134, 3) := by decide +kernel
theorem dX9_build_50 : decode cX9_build 50 = .ok (.iload_n 3, 1) := by decide +kernel
theorem dX9_build_51 : decode cX9_build 51 = .ok (.ifCond .ne 7, 3) := by decide +kernel
theorem dX9_build_54 : decode cX9_build 54 = .ok (.iconst 0, 1) := by decide +kernel
theorem dX9_build_55 : decode cX9_build 55 = .ok (.goto 5, 3) := by decide +kernel
theorem dX9_build_58 : decode cX9_build 58 = .ok (.bipush 96, 2) := by decide +kernel
theorem dX9_build_60 : decode cX9_build 60 = .ok (.invokestatic 123, 3) := by decide +kernel
theorem dX9_build_63 : decode cX9_build 63 = .ok (.istore 5, 2) := by decide +kernel
theorem dX9_build_65 : decode cX9_build 65 = .ok (.aload_n 0, 1) := by decide +kernel
theorem dX9_build_66 : decode cX9_build 66 = .ok (.getfield 13, 3) := by decide +kernel
theorem dX9_build_69 : decode cX9_build 69 = .ok (.iload 5, 2) := by decide +kernel
theorem dX9_build_71 : decode cX9_build 71 = .ok (.iaload, 1) := by decide +kernel
theorem dX9_build_72 : decode cX9_build 72 = .ok (.istore 6, 2) := by decide +kernel
theorem dX9_build_74 : decode cX9_build 74 = .ok (.aload_n 0, 1) := by decide +kernel
theorem dX9_build_75 : decode cX9_build 75 = .ok (.getfield 13, 3) := by decide +kernel
theorem dX9_build_78 : decode cX9_build 78 = .ok (.iload 5, 2) := by decide +kernel
theorem dX9_build_80 : decode cX9_build 80 = .ok (.iload 4, 2) := by decide +kernel
theorem dX9_build_82 : decode cX9_build 82 = .ok (.iastore, 1) := by decide +kernel
theorem dX9_build_83 : decode cX9_build 83 = .ok (.iload 6, 2) := by decide +kernel
theorem dX9_build_85 : decode cX9_build 85 = .ok (.ireturn, 1) := by decide +kernel
set_option maxRecDepth 20000 in
theorem ggX9_wind_X9_in : GoodIn wsX9_wind wsX9_in := goodIn_r _ [6] (by decide +kernel) (by decide +kernel)
set_option maxRecDepth 20000 in
theorem gX9_wind_X9_in : GoodIn wsX9_wind (va_wsS RX9 48 yX9_in wsX9_in) := goodIn_app (goodIn_of _ (by decide +kernel)) ggX9_wind_X9_in
theorem dX9_wind_0 : decode cX9_wind 0 = .ok (.aload_n 0, 1) := by decide +kernel
theorem dX9_wind_1 : decode cX9_wind 1 = .ok (.iconst 0, 1) := by decide +kernel
theorem dX9_wind_2 : decode cX9_wind 2 = .ok (.putfield 45, 3) := by decide +kernel
theorem dX9_wind_5 : decode cX9_wind 5 = .ok (.iload_n 1, 1) := by decide +kernel
theorem dX9_wind_6 : decode cX9_wind 6 = .ok (.bipush (-2), 2) := by decide +kernel
theorem dX9_wind_8 : decode cX9_wind 8 = .ok (.iconst 2, 1) := by decide +kernel
theorem dX9_wind_9 : decode cX9_wind 9 = .ok (.invokestatic 48, 3) := by decide +kernel
theorem dX9_wind_12 : decode cX9_wind 12 = .ok (.ifCond .eq 13, 3) := by decide +kernel
theorem dX9_wind_15 : decode cX9_wind 15 = .ok (.iload_n 2, 1) := by decide +kernel
theorem dX9_wind_16 : decode cX9_wind 16 = .ok (.bipush (-2), 2) := by decide +kernel
theorem dX9_wind_18 : decode cX9_wind 18 = .ok (.iconst 2, 1) := by decide +kernel
theorem dX9_wind_19 : decode cX9_wind 19 = .ok (.invokestatic 48, 3) := by decide +kernel
theorem dX9_wind_22 : decode cX9_wind 22 = .ok (.ifCond .ne 5, 3) := by decide +kernel
theorem dX9_wind_25 : decode cX9_wind 25 = .ok (.iconst (-1), 1) := by decide +kernel
theorem dX9_wind_26 : decode cX9_wind 26 = .ok (.ireturn, 1) := by decide +kernel
theorem dX9_wind_27 : decode cX9_wind 27 = .ok (.aload_n 0, 1) := by decide +kernel
theorem dX9_wind_28 : decode cX9_wind 28 = .ok (.getfield 13, 3) := by decide +kernel
theorem dX9_wind_31 : decode cX9_wind 31 = .ok (.sipush 192, 3) := by decide +kernel
theorem dX9_wind_34 : decode cX9_wind 34 = .ok (.iload_n 1, 1) := by decide +kernel
theorem dX9_wind_35 : decode cX9_wind 35 = .ok (.iastore, 1) := by decide +kernel
theorem dX9_wind_36 : decode cX9_wind 36 = .ok (.aload_n 0, 1) := by decide +kernel
theorem dX9_wind_37 : decode cX9_wind 37 = .ok (.getfield 13, 3) := by decide +kernel
theorem dX9_wind_40 : decode cX9_wind 40 = .ok (.sipush 193, 3) := by decide +kernel
theorem dX9_wind_43 : decode cX9_wind 43 = .ok (.iload_n 2, 1) := by decide +kernel
theorem dX9_wind_44 : decode cX9_wind 44 = .ok (.iastore, 1) := by decide +kernel
theorem dX9_wind_45 : decode cX9_wind 45 = .ok (.iconst 1, 1) := by decide +kernel
theorem dX9_wind_46 : decode cX9_wind 46 = .ok (.ireturn, 1) := by decide +kernel
set_option maxRecDepth 20000 in
theorem ggX9_fade_X9_in : GoodIn wsX9_fade wsX9_in := goodIn_r _ [6] (by decide +kernel) (by decide +kernel)
set_option maxRecDepth 20000 in
theorem gX9_fade_X9_in : GoodIn wsX9_fade (va_wsS RX9 48 yX9_in wsX9_in) := goodIn_app (goodIn_of _ (by decide +kernel)) ggX9_fade_X9_in
theorem dX9_fade_0 : decode cX9_fade 0 = .ok (.aload_n 0, 1) := by decide +kernel
theorem dX9_fade_1 : decode cX9_fade 1 = .ok (.iconst 0, 1) := by decide +kernel
theorem dX9_fade_2 : decode cX9_fade 2 = .ok (.putfield 45, 3) := by decide +kernel
theorem dX9_fade_5 : decode cX9_fade 5 = .ok (.iload_n 1, 1) := by decide +kernel
theorem dX9_fade_6 : decode cX9_fade 6 = .ok (.iconst 1, 1) := by decide +kernel
theorem dX9_fade_7 : decode cX9_fade 7 = .ok (.bipush 9, 2) := by decide +kernel
theorem dX9_fade_9 : decode cX9_fade 9 = .ok (.invokestatic 48, 3) := by decide +kernel
theorem dX9_fade_12 : decode cX9_fade 12 = .ok (.ifCond .ne 5, 3) := by decide +kernel
theorem dX9_fade_15 : decode cX9_fade 15 = .ok (.iconst (-1), 1) := by decide +kernel
theorem dX9_fade_16 : decode cX9_fade 16 = .ok (.ireturn, 1) := by decide +kernel
theorem dX9_fade_17 : decode cX9_fade 17 = .ok (.aload_n 0, 1) := by decide +kernel
theorem dX9_fade_18 : decode cX9_fade 18 = .ok (.getfield 35, 3) := by decide +kernel
theorem dX9_fade_21 : decode cX9_fade 21 = .ok (.istore_n 2, 1) := by decide +kernel
theorem dX9_fade_22 : decode cX9_fade 22 = .ok (.aload_n 0, 1) := by decide +kernel
theorem dX9_fade_23 : decode cX9_fade 23 = .ok (.iload_n 1, 1) := by decide +kernel
theorem dX9_fade_24 : decode cX9_fade 24 = .ok (.putfield 35, 3) := by decide +kernel
theorem dX9_fade_27 : decode cX9_fade 27 = .ok (.iload_n 2, 1) := by decide +kernel
theorem dX9_fade_28 : decode cX9_fade 28 = .ok (.ireturn, 1) := by decide +kernel
set_option maxRecDepth 20000 in
theorem ggX9_worker_X9_isWorker : GoodIn wsX9_worker wsX9_isWorker := goodIn_r _ [7, 8, 9, 10, 6, 11, 12, 13, 14, 15, 16, 17, 18, 19, 20, 21, 22, 23, 24, 25, 26, 27, 28, 29, 30, 31, 32, 33, 34, 35, 36, 37, 38] (by decide +kernel) (by decide +kernel)
set_option maxRecDepth 20000 in
theorem gX9_worker_X9_isWorker : GoodIn wsX9_worker (wsV RX9 154 RX9 yX9_isWorker wsX9_isWorker) := goodIn_app (goodIn_of _ (by decide +kernel)) ggX9_worker_X9_isWorker
set_option maxRecDepth 20000 in
theorem ggX9_worker_X9_in : GoodIn wsX9_worker wsX9_in := goodIn_r _ [11] (by decide +kernel) (by decide +kernel)
set_option maxRecDepth 20000 in
theorem gX9_worker_X9_in : GoodIn wsX9_worker (va_wsS RX9 48 yX9_in wsX9_in) := goodIn_app (goodIn_of _ (by decide +kernel)) ggX9_worker_X9_in
theorem dX9_worker_0 : decode cX9_worker 0 = .ok (.aload_n 0, 1) := by decide +kernel
theorem dX9_worker_1 : decode cX9_worker 1 = .ok (.iconst 0, 1) := by decide +kernel
theorem dX9_worker_2 : decode cX9_worker 2 = .ok (.putfield 45, 3) := by decide +kernel
theorem dX9_worker_5 : decode cX9_worker 5 = .ok (.aload_n 0, 1) := by decide +kernel
theorem dX9_worker_6 : decode cX9_worker 6 = .ok (.iload_n 1, 1) := by decide +kernel
theorem dX9_worker_7 : decode cX9_worker 7 = .ok (.invokevirtual 154, 3) := by decide +kernel
theorem dX9_worker_10 : decode cX9_worker 10 = .ok (.ifCond .eq 25, 3) := by decide +kernel
theorem dX9_worker_13 : decode cX9_worker 13 = .ok (.iload_n 2, 1) := by decide +kernel
theorem dX9_worker_14 : decode cX9_worker 14 = .ok (.iconst 0, 1) := by decide +kernel
theorem dX9_worker_15 : decode cX9_worker 15 = .ok (.iconst 3, 1) := by decide +kernel
theorem dX9_worker_16 : decode cX9_worker 16 = .ok (.invokestatic 48, 3) := by decide +kernel
theorem dX9_worker_19 : decode cX9_worker 19 = .ok (.ifCond .eq 16, 3) := by decide +kernel
theorem dX9_worker_22 : decode cX9_worker 22 = .ok (.aload_n 0, 1) := by decide +kernel
theorem dX9_worker_23 : decode cX9_worker 23 = .ok (.getfield 26, 3) := by decide +kernel
theorem dX9_worker_26 : decode cX9_worker 26 = .ok (.iconst 4, 1) := by decide +kernel
theorem dX9_worker_27 : decode cX9_worker 27 = .ok (.iload_n 1, 1) := by decide +kernel
theorem dX9_worker_28 : decode cX9_worker 28 = .ok (.imul, 1) := by decide +kernel
theorem dX9_worker_29 : decode cX9_worker 29 = .ok (.iload_n 2, 1) := by decide +kernel
theorem dX9_worker_30 : decode cX9_worker 30 = .ok (.iadd, 1) := by decide +kernel
theorem dX9_worker_31 : decode cX9_worker 31 = .ok (.iaload, 1) := by decide +kernel
theorem dX9_worker_32 : decode cX9_worker 32 = .ok (.goto 4, 3) := by decide +kernel
theorem dX9_worker_35 : decode cX9_worker 35 = .ok (.iconst (-1), 1) := by decide +kernel
theorem dX9_worker_36 : decode cX9_worker 36 = .ok (.ireturn, 1) := by decide +kernel
set_option maxRecDepth 20000 in
theorem ggX9_holds_X9_in : GoodIn wsX9_holds wsX9_in := goodIn_r _ [5] (by decide +kernel) (by decide +kernel)
set_option maxRecDepth 20000 in
theorem gX9_holds_X9_in : GoodIn wsX9_holds (va_wsS RX9 48 yX9_in wsX9_in) := goodIn_app (goodIn_of _ (by decide +kernel)) ggX9_holds_X9_in
theorem dX9_holds_0 : decode cX9_holds 0 = .ok (.iload_n 2, 1) := by decide +kernel
theorem dX9_holds_1 : decode cX9_holds 1 = .ok (.aload_n 0, 1) := by decide +kernel
theorem dX9_holds_2 : decode cX9_holds 2 = .ok (.getfield 29, 3) := by decide +kernel
theorem dX9_holds_5 : decode cX9_holds 5 = .ok (.iconst 5, 1) := by decide +kernel
theorem dX9_holds_6 : decode cX9_holds 6 = .ok (.iload_n 1, 1) := by decide +kernel
theorem dX9_holds_7 : decode cX9_holds 7 = .ok (.imul, 1) := by decide +kernel
theorem dX9_holds_8 : decode cX9_holds 8 = .ok (.iconst 1, 1) := by decide +kernel
theorem dX9_holds_9 : decode cX9_holds 9 = .ok (.iadd, 1) := by decide +kernel
theorem dX9_holds_10 : decode cX9_holds 10 = .ok (.iaload, 1) := by decide +kernel
theorem dX9_holds_11 : decode cX9_holds 11 = .ok (.aload_n 0, 1) := by decide +kernel
theorem dX9_holds_12 : decode cX9_holds 12 = .ok (.getfield 29, 3) := by decide +kernel
theorem dX9_holds_15 : decode cX9_holds 15 = .ok (.iconst 5, 1) := by decide +kernel
theorem dX9_holds_16 : decode cX9_holds 16 = .ok (.iload_n 1, 1) := by decide +kernel
theorem dX9_holds_17 : decode cX9_holds 17 = .ok (.imul, 1) := by decide +kernel
theorem dX9_holds_18 : decode cX9_holds 18 = .ok (.iconst 2, 1) := by decide +kernel
theorem dX9_holds_19 : decode cX9_holds 19 = .ok (.iadd, 1) := by decide +kernel
theorem dX9_holds_20 : decode cX9_holds 20 = .ok (.iaload, 1) := by decide +kernel
theorem dX9_holds_21 : decode cX9_holds 21 = .ok (.invokestatic 48, 3) := by decide +kernel
theorem dX9_holds_24 : decode cX9_holds 24 = .ok (.istore_n 3, 1) := by decide +kernel
theorem dX9_holds_25 : decode cX9_holds 25 = .ok (.iconst 0, 1) := by decide +kernel
theorem dX9_holds_26 : decode cX9_holds 26 = .ok (.istore 4, 2) := by decide +kernel
theorem dX9_holds_28 : decode cX9_holds 28 = .ok (.iload 4, 2) := by decide +kernel
theorem dX9_holds_30 : decode cX9_holds 30 = .ok (.iload_n 1, 1) := by decide +kernel
theorem dX9_holds_31 : decode cX9_holds 31 = .ok (.if_icmp .ge 68, 3) := by decide +kernel
theorem dX9_holds_34 : decode cX9_holds 34 = .ok (.iload_n 3, 1) := by decide +kernel
theorem dX9_holds_35 : decode cX9_holds 35 = .ok (.ifCond .eq 56, 3) := by decide +kernel
theorem dX9_holds_38 : decode cX9_holds 38 = .ok (.aload_n 0, 1) := by decide +kernel
theorem dX9_holds_39 : decode cX9_holds 39 = .ok (.getfield 29, 3) := by decide +kernel
theorem dX9_holds_42 : decode cX9_holds 42 = .ok (.iconst 5, 1) := by decide +kernel
theorem dX9_holds_43 : decode cX9_holds 43 = .ok (.iload 4, 2) := by decide +kernel
theorem dX9_holds_45 : decode cX9_holds 45 = .ok (.imul, 1) := by decide +kernel
theorem dX9_holds_46 : decode cX9_holds 46 = .ok (.iaload, 1) := by decide +kernel
theorem dX9_holds_47 : decode cX9_holds 47 = .ok (.aload_n 0, 1) := by decide +kernel
theorem dX9_holds_48 : decode cX9_holds 48 = .ok (.getfield 29, 3) := by decide +kernel
theorem dX9_holds_51 : decode cX9_holds 51 = .ok (.iconst 5, 1) := by decide +kernel
theorem dX9_holds_52 : decode cX9_holds 52 = .ok (.iload_n 1, 1) := by decide +kernel
theorem dX9_holds_53 : decode cX9_holds 53 = .ok (.imul, 1) := by decide +kernel
theorem dX9_holds_54 : decode cX9_holds 54 = .ok (.iaload, 1) := by decide +kernel
theorem dX9_holds_55 : decode cX9_holds 55 = .ok (.if_icmp .ne 32, 3) := by decide +kernel
theorem dX9_holds_58 : decode cX9_holds 58 = .ok (.iload_n 2, 1) := by decide +kernel
theorem dX9_holds_59 : decode cX9_holds 59 = .ok (.aload_n 0, 1) := by decide +kernel
theorem dX9_holds_60 : decode cX9_holds 60 = .ok (.getfield 29, 3) := by decide +kernel
theorem dX9_holds_63 : decode cX9_holds 63 = .ok (.iconst 5, 1) := by decide +kernel
theorem dX9_holds_64 : decode cX9_holds 64 = .ok (.iload 4, 2) := by decide +kernel
theorem dX9_holds_66 : decode cX9_holds 66 = .ok (.imul, 1) := by decide +kernel
theorem dX9_holds_67 : decode cX9_holds 67 = .ok (.iconst 1, 1) := by decide +kernel
theorem dX9_holds_68 : decode cX9_holds 68 = .ok (.iadd, 1) := by decide +kernel
theorem dX9_holds_69 : decode cX9_holds 69 = .ok (.iaload, 1) := by decide +kernel
theorem dX9_holds_70 : decode cX9_holds 70 = .ok (.aload_n 0, 1) := by decide +kernel
theorem dX9_holds_71 : decode cX9_holds 71 = .ok (.getfield 29, 3) := by decide +kernel
theorem dX9_holds_74 : decode cX9_holds 74 = .ok (.iconst 5, 1) := by decide +kernel
theorem dX9_holds_75 : decode cX9_holds 75 = .ok (.iload 4, 2) := by decide +kernel
theorem dX9_holds_77 : decode cX9_holds 77 = .ok (.imul, 1) := by decide +kernel
theorem dX9_holds_78 : decode cX9_holds 78 = .ok (.iconst 2, 1) := by decide +kernel
theorem dX9_holds_79 : decode cX9_holds 79 = .ok (.iadd, 1) := by decide +kernel
theorem dX9_holds_80 : decode cX9_holds 80 = .ok (.iaload, 1) := by decide +kernel
theorem dX9_holds_81 : decode cX9_holds 81 = .ok (.invokestatic 48, 3) := by decide +kernel
theorem dX9_holds_84 : decode cX9_holds 84 = .ok (.ifCond .ne 7, 3) := by decide +kernel
theorem dX9_holds_87 : decode cX9_holds 87 = .ok (.iconst 1, 1) := by decide +kernel
theorem dX9_holds_88 : decode cX9_holds 88 = .ok (.goto 4, 3) := by decide +kernel
theorem dX9_holds_91 : decode cX9_holds 91 = .ok (.iconst 0, 1) := by decide +kernel
theorem dX9_holds_92 : decode cX9_holds 92 = .ok (.istore_n 3, 1) := by decide +kernel
theorem dX9_holds_93 : decode cX9_holds 93 = .ok (.iinc 4 1, 3) := by decide +kernel
theorem dX9_holds_96 : decode cX9_holds 96 = .ok (.goto (-68), 3) := by decide +kernel
theorem dX9_holds_99 : decode cX9_holds 99 = .ok (.iload_n 3, 1) := by decide +kernel
theorem dX9_holds_100 : decode cX9_holds 100 = .ok (.ireturn, 1) := by decide +kernel
set_option maxRecDepth 20000 in
theorem ggX9_deed_X9_in : GoodIn wsX9_deed wsX9_in := goodIn_r _ [7] (by decide +kernel) (by decide +kernel)
set_option maxRecDepth 20000 in
theorem gX9_deed_X9_in : GoodIn wsX9_deed (va_wsS RX9 48 yX9_in wsX9_in) := goodIn_app (goodIn_of _ (by decide +kernel)) ggX9_deed_X9_in
set_option maxRecDepth 20000 in
theorem ggX9_deed_X9_holds : GoodIn wsX9_deed wsX9_holds := goodIn_r _ [11, 3, 4, 5, 6, 7, 12, 13, 14, 15, 16, 17, 18, 19, 20, 21, 22, 23, 24, 25, 26, 27, 28, 29, 30, 31, 32, 33, 34, 35, 36, 37, 38] (by decide +kernel) (by decide +kernel)
set_option maxRecDepth 20000 in
theorem gX9_deed_X9_holds : GoodIn wsX9_deed (wsV RX9 157 RX9 yX9_holds wsX9_holds) := goodIn_app (goodIn_of _ (by decide +kernel)) ggX9_deed_X9_holds
theorem dX9_deed_0 : decode cX9_deed 0 = .ok (.aload_n 0, 1) := by decide +kernel
theorem dX9_deed_1 : decode cX9_deed 1 = .ok (.iconst 0, 1) := by decide +kernel
theorem dX9_deed_2 : decode cX9_deed 2 = .ok (.putfield 45, 3) := by decide +kernel
theorem dX9_deed_5 : decode cX9_deed 5 = .ok (.iload_n 1, 1) := by decide +kernel
theorem dX9_deed_6 : decode cX9_deed 6 = .ok (.iconst 0, 1) := by decide +kernel
theorem dX9_deed_7 : decode cX9_deed 7 = .ok (.aload_n 0, 1) := by decide +kernel
theorem dX9_deed_8 : decode cX9_deed 8 = .ok (.getfield 143, 3) := by decide +kernel
theorem dX9_deed_11 : decode cX9_deed 11 = .ok (.iconst 1, 1) := by decide +kernel
theorem dX9_deed_12 : decode cX9_deed 12 = .ok (.isub, 1) := by decide +kernel
theorem dX9_deed_13 : decode cX9_deed 13 = .ok (.invokestatic 48, 3) := by decide +kernel
theorem dX9_deed_16 : decode cX9_deed 16 = .ok (.ifCond .eq 12, 3) := by decide +kernel
theorem dX9_deed_19 : decode cX9_deed 19 = .ok (.iload_n 2, 1) := by decide +kernel
theorem dX9_deed_20 : decode cX9_deed 20 = .ok (.iconst 0, 1) := by decide +kernel
theorem dX9_deed_21 : decode cX9_deed 21 = .ok (.iconst 5, 1) := by decide +kernel
theorem dX9_deed_22 : decode cX9_deed 22 = .ok (.invokestatic 48, 3) := by decide +kernel
theorem dX9_deed_25 : decode cX9_deed 25 = .ok (.ifCond .ne 5, 3) := by decide +kernel
theorem dX9_deed_28 : decode cX9_deed 28 = .ok (.iconst (-1), 1) := by decide +kernel
theorem dX9_deed_29 : decode cX9_deed 29 = .ok (.ireturn, 1) := by decide +kernel
theorem dX9_deed_30 : decode cX9_deed 30 = .ok (.iconst 0, 1) := by decide +kernel
theorem dX9_deed_31 : decode cX9_deed 31 = .ok (.istore_n 3, 1) := by decide +kernel
theorem dX9_deed_32 : decode cX9_deed 32 = .ok (.iconst 0, 1) := by decide +kernel
theorem dX9_deed_33 : decode cX9_deed 33 = .ok (.istore 4, 2) := by decide +kernel
theorem dX9_deed_35 : decode cX9_deed 35 = .ok (.iload 4, 2) := by decide +kernel
theorem dX9_deed_37 : decode cX9_deed 37 = .ok (.bipush 12, 2) := by decide +kernel
theorem dX9_deed_39 : decode cX9_deed 39 = .ok (.if_icmp .ge 30, 3) := by decide +kernel
theorem dX9_deed_42 : decode cX9_deed 42 = .ok (.iload_n 3, 1) := by decide +kernel
theorem dX9_deed_43 : decode cX9_deed 43 = .ok (.aload_n 0, 1) := by decide +kernel
theorem dX9_deed_44 : decode cX9_deed 44 = .ok (.iload_n 1, 1) := by decide +kernel
theorem dX9_deed_45 : decode cX9_deed 45 = .ok (.iload 4, 2) := by decide +kernel
theorem dX9_deed_47 : decode cX9_deed 47 = .ok (.invokevirtual 157, 3) := by decide +kernel
theorem dX9_deed_50 : decode cX9_deed 50 = .ok (.ifCond .eq 10, 3) := by decide +kernel
theorem dX9_deed_53 : decode cX9_deed 53 = .ok (.iconst 1, 1) := by decide +kernel
theorem dX9_deed_54 : decode cX9_deed 54 = .ok (.iload 4, 2) := by decide +kernel
theorem dX9_deed_56 : decode cX9_deed 56 = .ok (.ishl, 1) := by decide +kernel
theorem dX9_deed_57 : decode cX9_deed 57 = .ok (.goto 4, 3) := by decide +kernel
theorem dX9_deed_60 : decode cX9_deed 60 = .ok (.iconst 0, 1) := by decide +kernel
theorem dX9_deed_61 : decode cX9_deed 61 = .ok (.ior, 1) := by decide +kernel
theorem dX9_deed_62 : decode cX9_deed 62 = .ok (.istore_n 3, 1) := by decide +kernel
theorem dX9_deed_63 : decode cX9_deed 63 = .ok (.iinc 4 1, 3) := by decide +kernel
theorem dX9_deed_66 : decode cX9_deed 66 = .ok (.goto (-31), 3) := by decide +kernel
theorem dX9_deed_69 : decode cX9_deed 69 = .ok (.iload_n 2, 1) := by decide +kernel
theorem dX9_deed_70 : decode cX9_deed 70 = .ok (.iconst 5, 1) := by decide +kernel
theorem dX9_deed_71 : decode cX9_deed 71 = .ok (.if_icmp .ge 16, 3) := by decide +kernel
theorem dX9_deed_74 : decode cX9_deed 74 = .ok (.aload_n 0, 1) := by decide +kernel
theorem dX9_deed_75 : decode cX9_deed 75 = .ok (.getfield 29, 3) := by decide +kernel
theorem dX9_deed_78 : decode cX9_deed 78 = .ok (.iconst 5, 1) := by decide +kernel
theorem dX9_deed_79 : decode cX9_deed 79 = .ok (.iload_n 1, 1) := by decide +kernel
theorem dX9_deed_80 : decode cX9_deed 80 = .ok (.imul, 1) := by decide +kernel
theorem dX9_deed_81 : decode cX9_deed 81 = .ok (.iload_n 2, 1) := by decide +kernel
theorem dX9_deed_82 : decode cX9_deed 82 = .ok (.iadd, 1) := by decide +kernel
theorem dX9_deed_83 : decode cX9_deed 83 = .ok (.iaload, 1) := by decide +kernel
theorem dX9_deed_84 : decode cX9_deed 84 = .ok (.goto 4, 3) := by decide +kernel
theorem dX9_deed_87 : decode cX9_deed 87 = .ok (.iload_n 3, 1) := by decide +kernel
theorem dX9_deed_88 : decode cX9_deed 88 = .ok (.ireturn, 1) := by decide +kernel
set_option maxRecDepth 20000 in
theorem ggX9_passes_X9_spotOf : GoodIn wsX9_passes wsX9_spotOf := goodIn_r _ [7, 8, 9, 6, 10] (by decide +kernel) (by decide +kernel)
set_option maxRecDepth 20000 in
theorem gX9_passes_X9_spotOf : GoodIn wsX9_passes (va_wsS RX9 123 yX9_spotOf wsX9_spotOf) := goodIn_app (goodIn_of _ (by decide +kernel)) ggX9_passes_X9_spotOf
theorem dX9_passes_0 : decode cX9_passes 0 = .ok (.iload_n 3, 1) := by decide +kernel
theorem dX9_passes_1 : decode cX9_passes 1 = .ok (.iload_n 2, 1) := by decide +kernel
theorem dX9_passes_2 : decode cX9_passes 2 = .ok (.aload_n 0, 1) := by decide +kernel
theorem dX9_passes_3 : decode cX9_passes 3 = .ok (.getfield 134, 3) := by decide +kernel
theorem dX9_passes_6 : decode cX9_passes 6 = .ok (.iadd, 1) := by decide +kernel
theorem dX9_passes_7 : decode cX9_passes 7 = .ok (.if_icmp .eq 13, 3) := by decide +kernel
theorem dX9_passes_10 : decode cX9_passes 10 = .ok (.iload_n 3, 1) := by decide +kernel
theorem dX9_passes_11 : decode cX9_passes 11 = .ok (.iload_n 2, 1) := by decide +kernel
theorem dX9_passes_12 : decode cX9_passes 12 = .ok (.aload_n 0, 1) := by decide +kernel
theorem dX9_passes_13 : decode cX9_passes 13 = .ok (.getfield 134, 3) := by decide +kernel
theorem dX9_passes_16 : decode cX9_passes 16 = .ok (.isub, 1) := by decide +kernel
theorem dX9_passes_17 : decode cX9_passes 17 = .ok (.if_icmp .ne 7, 3) := by decide +kernel
theorem dX9_passes_20 : decode cX9_passes 20 = .ok (.iconst 1, 1) := by decide +kernel
theorem dX9_passes_21 : decode cX9_passes 21 = .ok (.goto 4, 3) := by decide +kernel
theorem dX9_passes_24 : decode cX9_passes 24 = .ok (.iconst 0, 1) := by decide +kernel
theorem dX9_passes_25 : decode cX9_passes 25 = .ok (.istore 4, 2) := by decide +kernel
theorem dX9_passes_27 : decode cX9_passes 27 = .ok (.iload 4, 2) := by decide +kernel
theorem dX9_passes_29 : decode cX9_passes 29 = .ok (.ifCond .eq 14, 3) := by decide +kernel
theorem dX9_passes_32 : decode cX9_passes 32 = .ok (.aload_n 0, 1) := by decide +kernel
theorem dX9_passes_33 : decode cX9_passes 33 = .ok (.getfield 13, 3) := by decide +kernel
theorem dX9_passes_36 : decode cX9_passes 36 = .ok (.sipush 193, 3) := by decide +kernel
theorem dX9_passes_39 : decode cX9_passes 39 = .ok (.iaload, 1) := by decide +kernel
theorem dX9_passes_40 : decode cX9_passes 40 = .ok (.goto 11, 3) := by decide +kernel
theorem dX9_passes_43 : decode cX9_passes 43 = .ok (.aload_n 0, 1) := by decide +kernel
theorem dX9_passes_44 : decode cX9_passes 44 = .ok (.getfield 13, 3) := by decide +kernel
theorem dX9_passes_47 : decode cX9_passes 47 = .ok (.sipush 192, 3) := by decide +kernel
theorem dX9_passes_50 : decode cX9_passes 50 = .ok (.iaload, 1) := by decide +kernel
theorem dX9_passes_51 : decode cX9_passes 51 = .ok (.istore 5, 2) := by decide +kernel
theorem dX9_passes_53 : decode cX9_passes 53 = .ok (.aload_n 0, 1) := by decide +kernel
theorem dX9_passes_54 : decode cX9_passes 54 = .ok (.getfield 35, 3) := by decide +kernel
theorem dX9_passes_57 : decode cX9_passes 57 = .ok (.iload_n 3, 1) := by decide +kernel
theorem dX9_passes_58 : decode cX9_passes 58 = .ok (.iload_n 2, 1) := by decide +kernel
theorem dX9_passes_59 : decode cX9_passes 59 = .ok (.if_icmp .le 8, 3) := by decide +kernel
theorem dX9_passes_62 : decode cX9_passes 62 = .ok (.iload 5, 2) := by decide +kernel
theorem dX9_passes_64 : decode cX9_passes 64 = .ok (.goto 6, 3) := by decide +kernel
theorem dX9_passes_67 : decode cX9_passes 67 = .ok (.iload 5, 2) := by decide +kernel
theorem dX9_passes_69 : decode cX9_passes 69 = .ok (.ineg, 1) := by decide +kernel
theorem dX9_passes_70 : decode cX9_passes 70 = .ok (.isub, 1) := by decide +kernel
theorem dX9_passes_71 : decode cX9_passes 71 = .ok (.istore 6, 2) := by decide +kernel
theorem dX9_passes_73 : decode cX9_passes 73 = .ok (.iload_n 1, 1) := by decide +kernel
theorem dX9_passes_74 : decode cX9_passes 74 = .ok (.iload 6, 2) := by decide +kernel
theorem dX9_passes_76 : decode cX9_passes 76 = .ok (.iconst 1, 1) := by decide +kernel
theorem dX9_passes_77 : decode cX9_passes 77 = .ok (.if_icmp .ge 7, 3) := by decide +kernel
theorem dX9_passes_80 : decode cX9_passes 80 = .ok (.iconst 1, 1) := by decide +kernel
theorem dX9_passes_81 : decode cX9_passes 81 = .ok (.goto 5, 3) := by decide +kernel
theorem dX9_passes_84 : decode cX9_passes 84 = .ok (.iload 6, 2) := by decide +kernel
theorem dX9_passes_86 : decode cX9_passes 86 = .ok (.isub, 1) := by decide +kernel
theorem dX9_passes_87 : decode cX9_passes 87 = .ok (.istore 7, 2) := by decide +kernel
theorem dX9_passes_89 : decode cX9_passes 89 = .ok (.aload_n 0, 1) := by decide +kernel
theorem dX9_passes_90 : decode cX9_passes 90 = .ok (.getfield 13, 3) := by decide +kernel
theorem dX9_passes_93 : decode cX9_passes 93 = .ok (.iload_n 2, 1) := by decide +kernel
theorem dX9_passes_94 : decode cX9_passes 94 = .ok (.iload_n 3, 1) := by decide +kernel
theorem dX9_passes_95 : decode cX9_passes 95 = .ok (.aload_n 0, 1) := by decide +kernel
theorem dX9_passes_96 : decode cX9_passes 96 = .ok (.getfield 134, 3) := by decide +kernel
theorem dX9_passes_99 : decode cX9_passes 99 = .ok (.iconst 0, 1) := by decide +kernel
theorem dX9_passes_100 : decode cX9_passes 100 = .ok (.invokestatic 123, 3) := by decide +kernel
theorem dX9_passes_103 : decode cX9_passes 103 = .ok (.iaload, 1) := by decide +kernel
theorem dX9_passes_104 : decode cX9_passes 104 = .ok (.istore 8, 2) := by decide +kernel
theorem dX9_passes_106 : decode cX9_passes 106 = .ok (.iload 8, 2) := by decide +kernel
theorem dX9_passes_108 : decode cX9_passes 108 = .ok (.ifCond .le 15, 3) := by decide +kernel
theorem dX9_passes_111 : decode cX9_passes 111 = .ok (.iload 7, 2) := by decide +kernel
theorem dX9_passes_113 : decode cX9_passes 113 = .ok (.iconst 2, 1) := by decide +kernel
theorem dX9_passes_114 : decode cX9_passes 114 = .ok (.idiv, 1) := by decide +kernel
theorem dX9_passes_115 : decode cX9_passes 115 = .ok (.istore 7, 2) := by decide +kernel
theorem dX9_passes_117 : decode cX9_passes 117 = .ok (.iinc 8 (-1), 3) := by decide +kernel
theorem dX9_passes_120 : decode cX9_passes 120 = .ok (.goto (-14), 3) := by decide +kernel
theorem dX9_passes_123 : decode cX9_passes 123 = .ok (.iload 7, 2) := by decide +kernel
theorem dX9_passes_125 : decode cX9_passes 125 = .ok (.aload_n 0, 1) := by decide +kernel
theorem dX9_passes_126 : decode cX9_passes 126 = .ok (.getfield 13, 3) := by decide +kernel
theorem dX9_passes_129 : decode cX9_passes 129 = .ok (.iload_n 2, 1) := by decide +kernel
theorem dX9_passes_130 : decode cX9_passes 130 = .ok (.iload_n 3, 1) := by decide +kernel
theorem dX9_passes_131 : decode cX9_passes 131 = .ok (.aload_n 0, 1) := by decide +kernel
theorem dX9_passes_132 : decode cX9_passes 132 = .ok (.getfield 134, 3) := by decide +kernel
