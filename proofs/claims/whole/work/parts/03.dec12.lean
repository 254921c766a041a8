theorem dX12_init_0 : decode cX12_init 0 = .ok (.aload_n 0, 1) := by decide +kernel
theorem dX12_init_1 : decode cX12_init 1 = .ok (.invokespecial 1, 3) := by decide +kernel
theorem dX12_init_4 : decode cX12_init 4 = .ok (.aload_n 0, 1) := by decide +kernel
theorem dX12_init_5 : decode cX12_init 5 = .ok (.iconst 4, 1) := by decide +kernel
theorem dX12_init_6 : decode cX12_init 6 = .ok (.newarray .int, 2) := by decide +kernel
theorem dX12_init_8 : decode cX12_init 8 = .ok (.dup, 1) := by decide +kernel
theorem dX12_init_9 : decode cX12_init 9 = .ok (.iconst 0, 1) := by decide +kernel
theorem dX12_init_10 : decode cX12_init 10 = .ok (.bipush 10, 2) := by decide +kernel
theorem dX12_init_12 : decode cX12_init 12 = .ok (.iastore, 1) := by decide +kernel
theorem dX12_init_13 : decode cX12_init 13 = .ok (.dup, 1) := by decide +kernel
theorem dX12_init_14 : decode cX12_init 14 = .ok (.iconst 1, 1) := by decide +kernel
theorem dX12_init_15 : decode cX12_init 15 = .ok (.bipush 12, 2) := by decide +kernel
theorem dX12_init_17 : decode cX12_init 17 = .ok (.iastore, 1) := by decide +kernel
theorem dX12_init_18 : decode cX12_init 18 = .ok (.dup, 1) := by decide +kernel
theorem dX12_init_19 : decode cX12_init 19 = .ok (.iconst 2, 1) := by decide +kernel
theorem dX12_init_20 : decode cX12_init 20 = .ok (.bipush 14, 2) := by decide +kernel
theorem dX12_init_22 : decode cX12_init 22 = .ok (.iastore, 1) := by decide +kernel
theorem dX12_init_23 : decode cX12_init 23 = .ok (.dup, 1) := by decide +kernel
theorem dX12_init_24 : decode cX12_init 24 = .ok (.iconst 3, 1) := by decide +kernel
theorem dX12_init_25 : decode cX12_init 25 = .ok (.bipush 7, 2) := by decide +kernel
theorem dX12_init_27 : decode cX12_init 27 = .ok (.iastore, 1) := by decide +kernel
theorem dX12_init_28 : decode cX12_init 28 = .ok (.putfield 7, 3) := by decide +kernel
theorem dX12_init_31 : decode cX12_init 31 = .ok (.aload_n 0, 1) := by decide +kernel
theorem dX12_init_32 : decode cX12_init 32 = .ok (.iconst 4, 1) := by decide +kernel
theorem dX12_init_33 : decode cX12_init 33 = .ok (.newarray .int, 2) := by decide +kernel
theorem dX12_init_35 : decode cX12_init 35 = .ok (.dup, 1) := by decide +kernel
theorem dX12_init_36 : decode cX12_init 36 = .ok (.iconst 0, 1) := by decide +kernel
theorem dX12_init_37 : decode cX12_init 37 = .ok (.bipush 14, 2) := by decide +kernel
theorem dX12_init_39 : decode cX12_init 39 = .ok (.iastore, 1) := by decide +kernel
theorem dX12_init_40 : decode cX12_init 40 = .ok (.dup, 1) := by decide +kernel
theorem dX12_init_41 : decode cX12_init 41 = .ok (.iconst 1, 1) := by decide +kernel
theorem dX12_init_42 : decode cX12_init 42 = .ok (.bipush 16, 2) := by decide +kernel
theorem dX12_init_44 : decode cX12_init 44 = .ok (.iastore, 1) := by decide +kernel
theorem dX12_init_45 : decode cX12_init 45 = .ok (.dup, 1) := by decide +kernel
theorem dX12_init_46 : decode cX12_init 46 = .ok (.iconst 2, 1) := by decide +kernel
theorem dX12_init_47 : decode cX12_init 47 = .ok (.bipush 19, 2) := by decide +kernel
theorem dX12_init_49 : decode cX12_init 49 = .ok (.iastore, 1) := by decide +kernel
theorem dX12_init_50 : decode cX12_init 50 = .ok (.dup, 1) := by decide +kernel
theorem dX12_init_51 : decode cX12_init 51 = .ok (.iconst 3, 1) := by decide +kernel
theorem dX12_init_52 : decode cX12_init 52 = .ok (.bipush 9, 2) := by decide +kernel
theorem dX12_init_54 : decode cX12_init 54 = .ok (.iastore, 1) := by decide +kernel
theorem dX12_init_55 : decode cX12_init 55 = .ok (.putfield 13, 3) := by decide +kernel
theorem dX12_init_58 : decode cX12_init 58 = .ok (.aload_n 0, 1) := by decide +kernel
theorem dX12_init_59 : decode cX12_init 59 = .ok (.iconst 4, 1) := by decide +kernel
theorem dX12_init_60 : decode cX12_init 60 = .ok (.newarray .int, 2) := by decide +kernel
theorem dX12_init_62 : decode cX12_init 62 = .ok (.dup, 1) := by decide +kernel
theorem dX12_init_63 : decode cX12_init 63 = .ok (.iconst 0, 1) := by decide +kernel
theorem dX12_init_64 : decode cX12_init 64 = .ok (.iconst 1, 1) := by decide +kernel
theorem dX12_init_65 : decode cX12_init 65 = .ok (.iastore, 1) := by decide +kernel
theorem dX12_init_66 : decode cX12_init 66 = .ok (.dup, 1) := by decide +kernel
theorem dX12_init_67 : decode cX12_init 67 = .ok (.iconst 1, 1) := by decide +kernel
theorem dX12_init_68 : decode cX12_init 68 = .ok (.iconst 1, 1) := by decide +kernel
theorem dX12_init_69 : decode cX12_init 69 = .ok (.iastore, 1) := by decide +kernel
theorem dX12_init_70 : decode cX12_init 70 = .ok (.dup, 1) := by decide +kernel
theorem dX12_init_71 : decode cX12_init 71 = .ok (.iconst 2, 1) := by decide +kernel
theorem dX12_init_72 : decode cX12_init 72 = .ok (.iconst 1, 1) := by decide +kernel
theorem dX12_init_73 : decode cX12_init 73 = .ok (.iastore, 1) := by decide +kernel
theorem dX12_init_74 : decode cX12_init 74 = .ok (.dup, 1) := by decide +kernel
theorem dX12_init_75 : decode cX12_init 75 = .ok (.iconst 3, 1) := by decide +kernel
theorem dX12_init_76 : decode cX12_init 76 = .ok (.iconst 1, 1) := by decide +kernel
theorem dX12_init_77 : decode cX12_init 77 = .ok (.iastore, 1) := by decide +kernel
theorem dX12_init_78 : decode cX12_init 78 = .ok (.putfield 16, 3) := by decide +kernel
theorem dX12_init_81 : decode cX12_init 81 = .ok (.aload_n 0, 1) := by decide +kernel
theorem dX12_init_82 : decode cX12_init 82 = .ok (.bipush 6, 2) := by decide +kernel
theorem dX12_init_84 : decode cX12_init 84 = .ok (.newarray .int, 2) := by decide +kernel
theorem dX12_init_86 : decode cX12_init 86 = .ok (.putfield 19, 3) := by decide +kernel
theorem dX12_init_89 : decode cX12_init 89 = .ok (.aload_n 0, 1) := by decide +kernel
theorem dX12_init_90 : decode cX12_init 90 = .ok (.bipush 6, 2) := by decide +kernel
theorem dX12_init_92 : decode cX12_init 92 = .ok (.newarray .int, 2) := by decide +kernel
theorem dX12_init_94 : decode cX12_init 94 = .ok (.putfield 22, 3) := by decide +kernel
theorem dX12_init_97 : decode cX12_init 97 = .ok (.aload_n 0, 1) := by decide +kernel
theorem dX12_init_98 : decode cX12_init 98 = .ok (.bipush 6, 2) := by decide +kernel
theorem dX12_init_100 : decode cX12_init 100 = .ok (.newarray .int, 2) := by decide +kernel
theorem dX12_init_102 : decode cX12_init 102 = .ok (.putfield 25, 3) := by decide +kernel
theorem dX12_init_105 : decode cX12_init 105 = .ok (.aload_n 0, 1) := by decide +kernel
theorem dX12_init_106 : decode cX12_init 106 = .ok (.bipush 6, 2) := by decide +kernel
theorem dX12_init_108 : decode cX12_init 108 = .ok (.newarray .int, 2) := by decide +kernel
theorem dX12_init_110 : decode cX12_init 110 = .ok (.putfield 28, 3) := by decide +kernel
theorem dX12_init_113 : decode cX12_init 113 = .ok (.aload_n 0, 1) := by decide +kernel
theorem dX12_init_114 : decode cX12_init 114 = .ok (.bipush 6, 2) := by decide +kernel
theorem dX12_init_116 : decode cX12_init 116 = .ok (.newarray .int, 2) := by decide +kernel
theorem dX12_init_118 : decode cX12_init 118 = .ok (.putfield 31, 3) := by decide +kernel
theorem dX12_init_121 : decode cX12_init 121 = .ok (.aload_n 0, 1) := by decide +kernel
theorem dX12_init_122 : decode cX12_init 122 = .ok (.bipush 48, 2) := by decide +kernel
theorem dX12_init_124 : decode cX12_init 124 = .ok (.newarray .int, 2) := by decide +kernel
theorem dX12_init_126 : decode cX12_init 126 = .ok (.putfield 34, 3) := by decide +kernel
theorem dX12_init_129 : decode cX12_init 129 = .ok (.aload_n 0, 1) := by decide +kernel
theorem dX12_init_130 : decode cX12_init 130 = .ok (.bipush 6, 2) := by decide +kernel
theorem dX12_init_132 : decode cX12_init 132 = .ok (.newarray .int, 2) := by decide +kernel
theorem dX12_init_134 : decode cX12_init 134 = .ok (.putfield 37, 3) := by decide +kernel
theorem dX12_init_137 : decode cX12_init 137 = .ok (.aload_n 0, 1) := by decide +kernel
theorem dX12_init_138 : decode cX12_init 138 = .ok (.bipush 6, 2) := by decide +kernel
theorem dX12_init_140 : decode cX12_init 140 = .ok (.newarray .int, 2) := by decide +kernel
theorem dX12_init_142 : decode cX12_init 142 = .ok (.putfield 40, 3) := by decide +kernel
theorem dX12_init_145 : decode cX12_init 145 = .ok (.aload_n 0, 1) := by decide +kernel
theorem dX12_init_146 : decode cX12_init 146 = .ok (.bipush 6, 2) := by decide +kernel
theorem dX12_init_148 : decode cX12_init 148 = .ok (.newarray .int, 2) := by decide +kernel
theorem dX12_init_150 : decode cX12_init 150 = .ok (.putfield 43, 3) := by decide +kernel
theorem dX12_init_153 : decode cX12_init 153 = .ok (.aload_n 0, 1) := by decide +kernel
theorem dX12_init_154 : decode cX12_init 154 = .ok (.iconst 4, 1) := by decide +kernel
theorem dX12_init_155 : decode cX12_init 155 = .ok (.newarray .int, 2) := by decide +kernel
theorem dX12_init_157 : decode cX12_init 157 = .ok (.putfield 46, 3) := by decide +kernel
theorem dX12_init_160 : decode cX12_init 160 = .ok (.aload_n 0, 1) := by decide +kernel
theorem dX12_init_161 : decode cX12_init 161 = .ok (.iconst 4, 1) := by decide +kernel
theorem dX12_init_162 : decode cX12_init 162 = .ok (.newarray .int, 2) := by decide +kernel
theorem dX12_init_164 : decode cX12_init 164 = .ok (.putfield 49, 3) := by decide +kernel
theorem dX12_init_167 : decode cX12_init 167 = .ok (.aload_n 0, 1) := by decide +kernel
theorem dX12_init_168 : decode cX12_init 168 = .ok (.sipush 160, 3) := by decide +kernel
theorem dX12_init_171 : decode cX12_init 171 = .ok (.newarray .int, 2) := by decide +kernel
theorem dX12_init_173 : decode cX12_init 173 = .ok (.putfield 52, 3) := by decide +kernel
theorem dX12_init_176 : decode cX12_init 176 = .ok (.aload_n 0, 1) := by decide +kernel
theorem dX12_init_177 : decode cX12_init 177 = .ok (.sipush 1200, 3) := by decide +kernel
theorem dX12_init_180 : decode cX12_init 180 = .ok (.newarray .int, 2) := by decide +kernel
theorem dX12_init_182 : decode cX12_init 182 = .ok (.putfield 55, 3) := by decide +kernel
theorem dX12_init_185 : decode cX12_init 185 = .ok (.aload_n 0, 1) := by decide +kernel
theorem dX12_init_186 : decode cX12_init 186 = .ok (.bipush 24, 2) := by decide +kernel
theorem dX12_init_188 : decode cX12_init 188 = .ok (.newarray .int, 2) := by decide +kernel
theorem dX12_init_190 : decode cX12_init 190 = .ok (.putfield 58, 3) := by decide +kernel
theorem dX12_init_193 : decode cX12_init 193 = .ok (.aload_n 0, 1) := by decide +kernel
theorem dX12_init_194 : decode cX12_init 194 = .ok (.iconst 1, 1) := by decide +kernel
theorem dX12_init_195 : decode cX12_init 195 = .ok (.putfield 61, 3) := by decide +kernel
theorem dX12_init_198 : decode cX12_init 198 = .ok (.aload_n 0, 1) := by decide +kernel
theorem dX12_init_199 : decode cX12_init 199 = .ok (.iconst (-1), 1) := by decide +kernel
theorem dX12_init_200 : decode cX12_init 200 = .ok (.putfield 65, 3) := by decide +kernel
theorem dX12_init_203 : decode cX12_init 203 = .ok (.aload_n 0, 1) := by decide +kernel
theorem dX12_init_204 : decode cX12_init 204 = .ok (.iconst 4, 1) := by decide +kernel
theorem dX12_init_205 : decode cX12_init 205 = .ok (.newarray .int, 2) := by decide +kernel
theorem dX12_init_207 : decode cX12_init 207 = .ok (.putfield 68, 3) := by decide +kernel
theorem dX12_init_210 : decode cX12_init 210 = .ok (.aload_n 0, 1) := by decide +kernel
theorem dX12_init_211 : decode cX12_init 211 = .ok (.iconst 4, 1) := by decide +kernel
theorem dX12_init_212 : decode cX12_init 212 = .ok (.newarray .int, 2) := by decide +kernel
theorem dX12_init_214 : decode cX12_init 214 = .ok (.putfield 71, 3) := by decide +kernel
theorem dX12_init_217 : decode cX12_init 217 = .ok (.aload_n 0, 1) := by decide +kernel
theorem dX12_init_218 : decode cX12_init 218 = .ok (.iconst 4, 1) := by decide +kernel
theorem dX12_init_219 : decode cX12_init 219 = .ok (.newarray .int, 2) := by decide +kernel
theorem dX12_init_221 : decode cX12_init 221 = .ok (.putfield 74, 3) := by decide +kernel
theorem dX12_init_224 : decode cX12_init 224 = .ok (.aload_n 0, 1) := by decide +kernel
theorem dX12_init_225 : decode cX12_init 225 = .ok (.bipush 6, 2) := by decide +kernel
theorem dX12_init_227 : decode cX12_init 227 = .ok (.newarray .int, 2) := by decide +kernel
theorem dX12_init_229 : decode cX12_init 229 = .ok (.putfield 77, 3) := by decide +kernel
theorem dX12_init_232 : decode cX12_init 232 = .ok (.aload_n 0, 1) := by decide +kernel
theorem dX12_init_233 : decode cX12_init 233 = .ok (.bipush 6, 2) := by decide +kernel
theorem dX12_init_235 : decode cX12_init 235 = .ok (.newarray .int, 2) := by decide +kernel
theorem dX12_init_237 : decode cX12_init 237 = .ok (.putfield 80, 3) := by decide +kernel
theorem dX12_init_240 : decode cX12_init 240 = .ok (.aload_n 0, 1) := by decide +kernel
theorem dX12_init_241 : decode cX12_init 241 = .ok (.bipush 48, 2) := by decide +kernel
theorem dX12_init_243 : decode cX12_init 243 = .ok (.newarray .int, 2) := by decide +kernel
theorem dX12_init_245 : decode cX12_init 245 = .ok (.putfield 83, 3) := by decide +kernel
theorem dX12_init_248 : decode cX12_init 248 = .ok (.aload_n 0, 1) := by decide +kernel
theorem dX12_init_249 : decode cX12_init 249 = .ok (.iconst 4, 1) := by decide +kernel
theorem dX12_init_250 : decode cX12_init 250 = .ok (.newarray .int, 2) := by decide +kernel
theorem dX12_init_252 : decode cX12_init 252 = .ok (.putfield 86, 3) := by decide +kernel
theorem dX12_init_255 : decode cX12_init 255 = .ok (.aload_n 0, 1) := by decide +kernel
theorem dX12_init_256 : decode cX12_init 256 = .ok (.iconst 4, 1) := by decide +kernel
theorem dX12_init_257 : decode cX12_init 257 = .ok (.newarray .int, 2) := by decide +kernel
theorem dX12_init_259 : decode cX12_init 259 = .ok (.putfield 89, 3) := by decide +kernel
theorem dX12_init_262 : decode cX12_init 262 = .ok (.aload_n 0, 1) := by decide +kernel
theorem dX12_init_263 : decode cX12_init 263 = .ok (.iconst 4, 1) := by decide +kernel
theorem dX12_init_264 : decode cX12_init 264 = .ok (.newarray .int, 2) := by decide +kernel
theorem dX12_init_266 : decode cX12_init 266 = .ok (.dup, 1) := by decide +kernel
theorem dX12_init_267 : decode cX12_init 267 = .ok (.iconst 0, 1) := by decide +kernel
theorem dX12_init_268 : decode cX12_init 268 = .ok (.iconst (-1), 1) := by decide +kernel
theorem dX12_init_269 : decode cX12_init 269 = .ok (.iastore, 1) := by decide +kernel
theorem dX12_init_270 : decode cX12_init 270 = .ok (.dup, 1) := by decide +kernel
theorem dX12_init_271 : decode cX12_init 271 = .ok (.iconst 1, 1) := by decide +kernel
theorem dX12_init_272 : decode cX12_init 272 = .ok (.iconst (-1), 1) := by decide +kernel
theorem dX12_init_273 : decode cX12_init 273 = .ok (.iastore, 1) := by decide +kernel
theorem dX12_init_274 : decode cX12_init 274 = .ok (.dup, 1) := by decide +kernel
theorem dX12_init_275 : decode cX12_init 275 = .ok (.iconst 2, 1) := by decide +kernel
theorem dX12_init_276 : decode cX12_init 276 = .ok (.iconst (-1), 1) := by decide +kernel
theorem dX12_init_277 : decode cX12_init 277 = .ok (.iastore, 1) := by decide +kernel
theorem dX12_init_278 : decode cX12_init 278 = .ok (.dup, 1) := by decide +kernel
theorem dX12_init_279 : decode cX12_init 279 = .ok (.iconst 3, 1) := by decide +kernel
theorem dX12_init_280 : decode cX12_init 280 = .ok (.iconst (-1), 1) := by decide +kernel
theorem dX12_init_281 : decode cX12_init 281 = .ok (.iastore, 1) := by decide +kernel
theorem dX12_init_282 : decode cX12_init 282 = .ok (.putfield 92, 3) := by decide +kernel
theorem dX12_init_285 : decode cX12_init 285 = .ok (.aload_n 0, 1) := by decide +kernel
theorem dX12_init_286 : decode cX12_init 286 = .ok (.iconst 4, 1) := by decide +kernel
theorem dX12_init_287 : decode cX12_init 287 = .ok (.newarray .int, 2) := by decide +kernel
theorem dX12_init_289 : decode cX12_init 289 = .ok (.putfield 95, 3) := by decide +kernel
theorem dX12_init_292 : decode cX12_init 292 = .ok (.aload_n 0, 1) := by decide +kernel
theorem dX12_init_293 : decode cX12_init 293 = .ok (.sipush 240, 3) := by decide +kernel
theorem dX12_init_296 : decode cX12_init 296 = .ok (.newarray .int, 2) := by decide +kernel
theorem dX12_init_298 : decode cX12_init 298 = .ok (.putfield 98, 3) := by decide +kernel
theorem dX12_init_301 : decode cX12_init 301 = .ok (.aload_n 0, 1) := by decide +kernel
theorem dX12_init_302 : decode cX12_init 302 = .ok (.bipush 12, 2) := by decide +kernel
theorem dX12_init_304 : decode cX12_init 304 = .ok (.newarray .long, 2) := by decide +kernel
theorem dX12_init_306 : decode cX12_init 306 = .ok (.dup, 1) := by decide +kernel
theorem dX12_init_307 : decode cX12_init 307 = .ok (.iconst 0, 1) := by decide +kernel
theorem dX12_init_308 : decode cX12_init 308 = .ok (.ldc2_w 101, 3) := by decide +kernel
theorem dX12_init_311 : decode cX12_init 311 = .ok (.lastore, 1) := by decide +kernel
theorem dX12_init_312 : decode cX12_init 312 = .ok (.dup, 1) := by decide +kernel
theorem dX12_init_313 : decode cX12_init 313 = .ok (.iconst 1, 1) := by decide +kernel
theorem dX12_init_314 : decode cX12_init 314 = .ok (.ldc2_w 103, 3) := by decide +kernel
theorem dX12_init_317 : decode cX12_init 317 = .ok (.lastore, 1) := by decide +kernel
theorem dX12_init_318 : decode cX12_init 318 = .ok (.dup, 1) := by decide +kernel
theorem dX12_init_319 : decode cX12_init 319 = .ok (.iconst 2, 1) := by decide +kernel
theorem dX12_init_320 : decode cX12_init 320 = .ok (.ldc2_w 105, 3) := by decide +kernel
theorem dX12_init_323 : decode cX12_init 323 = .ok (.lastore, 1) := by decide +kernel
theorem dX12_init_324 : decode cX12_init 324 = .ok (.dup, 1) := by decide +kernel
theorem dX12_init_325 : decode cX12_init 325 = .ok (.iconst 3, 1) := by decide +kernel
theorem dX12_init_326 : decode cX12_init 326 = .ok (.ldc2_w 107, 3) := by decide +kernel
theorem dX12_init_329 : decode cX12_init 329 = .ok (.lastore, 1) := by decide +kernel
theorem dX12_init_330 : decode cX12_init 330 = .ok (.dup, 1) := by decide +kernel
theorem dX12_init_331 : decode cX12_init 331 = .ok (.iconst 4, 1) := by decide +kernel
theorem dX12_init_332 : decode cX12_init 332 = .ok (.ldc2_w 109, 3) := by decide +kernel
theorem dX12_init_335 : decode cX12_init 335 = .ok (.lastore, 1) := by decide +kernel
theorem dX12_init_336 : decode cX12_init 336 = .ok (.dup, 1) := by decide +kernel
theorem dX12_init_337 : decode cX12_init 337 = .ok (.iconst 5, 1) := by decide +kernel
theorem dX12_init_338 : decode cX12_init 338 = .ok (.ldc2_w 111, 3) := by decide +kernel
theorem dX12_init_341 : decode cX12_init 341 = .ok (.lastore, 1) := by decide +kernel
theorem dX12_init_342 : decode cX12_init 342 = .ok (.dup, 1) := by decide +kernel
theorem dX12_init_343 : decode cX12_init 343 = .ok (.bipush 6, 2) := by decide +kernel
theorem dX12_init_345 : decode cX12_init 345 = .ok (.ldc2_w 113, 3) := by decide +kernel
theorem dX12_init_348 : decode cX12_init 348 = .ok (.lastore, 1) := by decide +kernel
theorem dX12_init_349 : decode cX12_init 349 = .ok (.dup, 1) := by decide +kernel
theorem dX12_init_350 : decode cX12_init 350 = .ok (.bipush 7, 2) := by decide +kernel
theorem dX12_init_352 : decode cX12_init 352 = .ok (.ldc2_w 115, 3) := by decide +kernel
theorem dX12_init_355 : decode cX12_init 355 = .ok (.lastore, 1) := by decide +kernel
theorem dX12_init_356 : decode cX12_init 356 = .ok (.dup, 1) := by decide +kernel
theorem dX12_init_357 : decode cX12_init 357 = .ok (.bipush 8, 2) := by decide +kernel
theorem dX12_init_359 : decode cX12_init 359 = .ok (.ldc2_w 117, 3) := by decide +kernel
theorem dX12_init_362 : decode cX12_init 362 = .ok (.lastore, 1) := by decide +kernel
theorem dX12_init_363 : decode cX12_init 363 = .ok (.dup, 1) := by decide +kernel
theorem dX12_init_364 : decode cX12_init 364 = .ok (.bipush 9, 2) := by decide +kernel
theorem dX12_init_366 : decode cX12_init 366 = .ok (.ldc2_w 119, 3) := by decide +kernel
theorem dX12_init_369 : decode cX12_init 369 = .ok (.lastore, 1) := by decide +kernel
theorem dX12_init_370 : decode cX12_init 370 = .ok (.dup, 1) := by decide +kernel
theorem dX12_init_371 : decode cX12_init 371 = .ok (.bipush 10, 2) := by decide +kernel
theorem dX12_init_373 : decode cX12_init 373 = .ok (.ldc2_w 121, 3) := by decide +kernel
theorem dX12_init_376 : decode cX12_init 376 = .ok (.lastore, 1) := by decide +kernel
theorem dX12_init_377 : decode cX12_init 377 = .ok (.dup, 1) := by decide +kernel
theorem dX12_init_378 : decode cX12_init 378 = .ok (.bipush 11, 2) := by decide +kernel
theorem dX12_init_380 : decode cX12_init 380 = .ok (.ldc2_w 123, 3) := by decide +kernel
theorem dX12_init_383 : decode cX12_init 383 = .ok (.lastore, 1) := by decide +kernel
theorem dX12_init_384 : decode cX12_init 384 = .ok (.putfield 125, 3) := by decide +kernel
theorem dX12_init_387 : decode cX12_init 387 = .ok (.aload_n 0, 1) := by decide +kernel
theorem dX12_init_388 : decode cX12_init 388 = .ok (.sipush 200, 3) := by decide +kernel
theorem dX12_init_391 : decode cX12_init 391 = .ok (.newarray .int, 2) := by decide +kernel
theorem dX12_init_393 : decode cX12_init 393 = .ok (.putfield 129, 3) := by decide +kernel
theorem dX12_init_396 : decode cX12_init 396 = .ok (.aload_n 0, 1) := by decide +kernel
theorem dX12_init_397 : decode cX12_init 397 = .ok (.sipush 200, 3) := by decide +kernel
theorem dX12_init_400 : decode cX12_init 400 = .ok (.newarray .int, 2) := by decide +kernel
theorem dX12_init_402 : decode cX12_init 402 = .ok (.putfield 132, 3) := by decide +kernel
theorem dX12_init_405 : decode cX12_init 405 = .ok (.aload_n 0, 1) := by decide +kernel
theorem dX12_init_406 : decode cX12_init 406 = .ok (.bipush 6, 2) := by decide +kernel
theorem dX12_init_408 : decode cX12_init 408 = .ok (.newarray .int, 2) := by decide +kernel
theorem dX12_init_410 : decode cX12_init 410 = .ok (.putfield 135, 3) := by decide +kernel
theorem dX12_init_413 : decode cX12_init 413 = .ok (.aload_n 0, 1) := by decide +kernel
theorem dX12_init_414 : decode cX12_init 414 = .ok (.bipush 6, 2) := by decide +kernel
theorem dX12_init_416 : decode cX12_init 416 = .ok (.newarray .int, 2) := by decide +kernel
theorem dX12_init_418 : decode cX12_init 418 = .ok (.putfield 138, 3) := by decide +kernel
theorem dX12_init_421 : decode cX12_init 421 = .ok (.aload_n 0, 1) := by decide +kernel
theorem dX12_init_422 : decode cX12_init 422 = .ok (.bipush 48, 2) := by decide +kernel
theorem dX12_init_424 : decode cX12_init 424 = .ok (.newarray .int, 2) := by decide +kernel
theorem dX12_init_426 : decode cX12_init 426 = .ok (.putfield 141, 3) := by decide +kernel
theorem dX12_init_429 : decode cX12_init 429 = .ok (.aload_n 0, 1) := by decide +kernel
theorem dX12_init_430 : decode cX12_init 430 = .ok (.bipush 6, 2) := by decide +kernel
theorem dX12_init_432 : decode cX12_init 432 = .ok (.newarray .int, 2) := by decide +kernel
theorem dX12_init_434 : decode cX12_init 434 = .ok (.putfield 144, 3) := by decide +kernel
theorem dX12_init_437 : decode cX12_init 437 = .ok (.aload_n 0, 1) := by decide +kernel
theorem dX12_init_438 : decode cX12_init 438 = .ok (.sipush 1001, 3) := by decide +kernel
theorem dX12_init_441 : decode cX12_init 441 = .ok (.newarray .int, 2) := by decide +kernel
theorem dX12_init_443 : decode cX12_init 443 = .ok (.putfield 147, 3) := by decide +kernel
theorem dX12_init_446 : decode cX12_init 446 = .ok (.aload_n 0, 1) := by decide +kernel
theorem dX12_init_447 : decode cX12_init 447 = .ok (.iconst 0, 1) := by decide +kernel
theorem dX12_init_448 : decode cX12_init 448 = .ok (.iconst 0, 1) := by decide +kernel
theorem dX12_init_449 : decode cX12_init 449 = .ok (.iconst 0, 1) := by decide +kernel
theorem dX12_init_450 : decode cX12_init 450 = .ok (.ldc 150, 2) := by decide +kernel
theorem dX12_init_452 : decode cX12_init 452 = .ok (.bipush 18, 2) := by decide +kernel
theorem dX12_init_454 : decode cX12_init 454 = .ok (.invokevirtual 151, 3) := by decide +kernel
theorem dX12_init_457 : decode cX12_init 457 = .ok (.aload_n 0, 1) := by decide +kernel
theorem dX12_init_458 : decode cX12_init 458 = .ok (.iconst 4, 1) := by decide +kernel
theorem dX12_init_459 : decode cX12_init 459 = .ok (.iconst 2, 1) := by decide +kernel
theorem dX12_init_460 : decode cX12_init 460 = .ok (.bipush 17, 2) := by decide +kernel
theorem dX12_init_462 : decode cX12_init 462 = .ok (.iconst 1, 1) := by decide +kernel
theorem dX12_init_463 : decode cX12_init 463 = .ok (.ldc 155, 2) := by decide +kernel
theorem dX12_init_465 : decode cX12_init 465 = .ok (.invokevirtual 151, 3) := by decide +kernel
theorem dX12_init_468 : decode cX12_init 468 = .ok (.aload_n 0, 1) := by decide +kernel
theorem dX12_init_469 : decode cX12_init 469 = .ok (.bipush 8, 2) := by decide +kernel
theorem dX12_init_471 : decode cX12_init 471 = .ok (.bipush 18, 2) := by decide +kernel
theorem dX12_init_473 : decode cX12_init 473 = .ok (.iconst 4, 1) := by decide +kernel
theorem dX12_init_474 : decode cX12_init 474 = .ok (.bipush 16, 2) := by decide +kernel
theorem dX12_init_476 : decode cX12_init 476 = .ok (.iconst 0, 1) := by decide +kernel
theorem dX12_init_477 : decode cX12_init 477 = .ok (.invokevirtual 151, 3) := by decide +kernel
theorem dX12_init_480 : decode cX12_init 480 = .ok (.aload_n 0, 1) := by decide +kernel
theorem dX12_init_481 : decode cX12_init 481 = .ok (.getfield 58, 3) := by decide +kernel
theorem dX12_init_484 : decode cX12_init 484 = .ok (.iconst 1, 1) := by decide +kernel
theorem dX12_init_485 : decode cX12_init 485 = .ok (.iconst 1, 1) := by decide +kernel
theorem dX12_init_486 : decode cX12_init 486 = .ok (.iastore, 1) := by decide +kernel
theorem dX12_init_487 : decode cX12_init 487 = .ok (.aload_n 0, 1) := by decide +kernel
theorem dX12_init_488 : decode cX12_init 488 = .ok (.getfield 58, 3) := by decide +kernel
theorem dX12_init_491 : decode cX12_init 491 = .ok (.iconst 2, 1) := by decide +kernel
theorem dX12_init_492 : decode cX12_init 492 = .ok (.bipush 6, 2) := by decide +kernel
theorem dX12_init_494 : decode cX12_init 494 = .ok (.iastore, 1) := by decide +kernel
theorem dX12_init_495 : decode cX12_init 495 = .ok (.aload_n 0, 1) := by decide +kernel
theorem dX12_init_496 : decode cX12_init 496 = .ok (.getfield 58, 3) := by decide +kernel
theorem dX12_init_499 : decode cX12_init 499 = .ok (.iconst 3, 1) := by decide +kernel
theorem dX12_init_500 : decode cX12_init 500 = .ok (.bipush 11, 2) := by decide +kernel
theorem dX12_init_502 : decode cX12_init 502 = .ok (.iastore, 1) := by decide +kernel
theorem dX12_init_503 : decode cX12_init 503 = .ok (.return_, 1) := by decide +kernel
theorem dX12_first_0 : decode cX12_first 0 = .ok (.aload_n 0, 1) := by decide +kernel
theorem dX12_first_1 : decode cX12_first 1 = .ok (.getfield 55, 3) := by decide +kernel
theorem dX12_first_4 : decode cX12_first 4 = .ok (.iload_n 1, 1) := by decide +kernel
theorem dX12_first_5 : decode cX12_first 5 = .ok (.iload_n 2, 1) := by decide +kernel
theorem dX12_first_6 : decode cX12_first 6 = .ok (.iastore, 1) := by decide +kernel
theorem dX12_first_7 : decode cX12_first 7 = .ok (.aload_n 0, 1) := by decide +kernel
theorem dX12_first_8 : decode cX12_first 8 = .ok (.getfield 55, 3) := by decide +kernel
theorem dX12_first_11 : decode cX12_first 11 = .ok (.iload_n 1, 1) := by decide +kernel
theorem dX12_first_12 : decode cX12_first 12 = .ok (.iconst 1, 1) := by decide +kernel
theorem dX12_first_13 : decode cX12_first 13 = .ok (.iadd, 1) := by decide +kernel
theorem dX12_first_14 : decode cX12_first 14 = .ok (.iload_n 3, 1) := by decide +kernel
theorem dX12_first_15 : decode cX12_first 15 = .ok (.iastore, 1) := by decide +kernel
theorem dX12_first_16 : decode cX12_first 16 = .ok (.aload_n 0, 1) := by decide +kernel
theorem dX12_first_17 : decode cX12_first 17 = .ok (.getfield 55, 3) := by decide +kernel
theorem dX12_first_20 : decode cX12_first 20 = .ok (.iload_n 1, 1) := by decide +kernel
theorem dX12_first_21 : decode cX12_first 21 = .ok (.iconst 2, 1) := by decide +kernel
theorem dX12_first_22 : decode cX12_first 22 = .ok (.iadd, 1) := by decide +kernel
theorem dX12_first_23 : decode cX12_first 23 = .ok (.iload 4, 2) := by decide +kernel
theorem dX12_first_25 : decode cX12_first 25 = .ok (.iastore, 1) := by decide +kernel
theorem dX12_first_26 : decode cX12_first 26 = .ok (.aload_n 0, 1) := by decide +kernel
theorem dX12_first_27 : decode cX12_first 27 = .ok (.getfield 55, 3) := by decide +kernel
theorem dX12_first_30 : decode cX12_first 30 = .ok (.iload_n 1, 1) := by decide +kernel
theorem dX12_first_31 : decode cX12_first 31 = .ok (.iconst 3, 1) := by decide +kernel
theorem dX12_first_32 : decode cX12_first 32 = .ok (.iadd, 1) := by decide +kernel
theorem dX12_first_33 : decode cX12_first 33 = .ok (.iload 5, 2) := by decide +kernel
theorem dX12_first_35 : decode cX12_first 35 = .ok (.iastore, 1) := by decide +kernel
theorem dX12_first_36 : decode cX12_first 36 = .ok (.return_, 1) := by decide +kernel
theorem dX12_in_0 : decode cX12_in 0 = .ok (.iload_n 0, 1) := by decide +kernel
theorem dX12_in_1 : decode cX12_in 1 = .ok (.iload_n 1, 1) := by decide +kernel
theorem dX12_in_2 : decode cX12_in 2 = .ok (.if_icmp .lt 12, 3) := by decide +kernel
theorem dX12_in_5 : decode cX12_in 5 = .ok (.iload_n 0, 1) := by decide +kernel
theorem dX12_in_6 : decode cX12_in 6 = .ok (.iload_n 2, 1) := by decide +kernel
theorem dX12_in_7 : decode cX12_in 7 = .ok (.if_icmp .gt 7, 3) := by decide +kernel
theorem dX12_in_10 : decode cX12_in 10 = .ok (.iconst 1, 1) := by decide +kernel
theorem dX12_in_11 : decode cX12_in 11 = .ok (.goto 4, 3) := by decide +kernel
theorem dX12_in_14 : decode cX12_in 14 = .ok (.iconst 0, 1) := by decide +kernel
theorem dX12_in_15 : decode cX12_in 15 = .ok (.ireturn, 1) := by decide +kernel
theorem dX12_isRow_0 : decode cX12_isRow 0 = .ok (.iload_n 1, 1) := by decide +kernel
theorem dX12_isRow_1 : decode cX12_isRow 1 = .ok (.iconst 0, 1) := by decide +kernel
theorem dX12_isRow_2 : decode cX12_isRow 2 = .ok (.aload_n 0, 1) := by decide +kernel
theorem dX12_isRow_3 : decode cX12_isRow 3 = .ok (.getfield 156, 3) := by decide +kernel
theorem dX12_isRow_6 : decode cX12_isRow 6 = .ok (.iconst 1, 1) := by decide +kernel
theorem dX12_isRow_7 : decode cX12_isRow 7 = .ok (.isub, 1) := by decide +kernel
theorem dX12_isRow_8 : decode cX12_isRow 8 = .ok (.invokestatic 159, 3) := by decide +kernel
theorem dX12_isRow_11 : decode cX12_isRow 11 = .ok (.ireturn, 1) := by decide +kernel
theorem dX12_isSeat_0 : decode cX12_isSeat 0 = .ok (.aload_n 0, 1) := by decide +kernel
theorem dX12_isSeat_1 : decode cX12_isSeat 1 = .ok (.iload_n 1, 1) := by decide +kernel
theorem dX12_isSeat_2 : decode cX12_isSeat 2 = .ok (.invokevirtual 163, 3) := by decide +kernel
theorem dX12_isSeat_5 : decode cX12_isSeat 5 = .ok (.ifCond .eq 35, 3) := by decide +kernel
theorem dX12_isSeat_8 : decode cX12_isSeat 8 = .ok (.iload_n 2, 1) := by decide +kernel
theorem dX12_isSeat_9 : decode cX12_isSeat 9 = .ok (.iconst 0, 1) := by decide +kernel
theorem dX12_isSeat_10 : decode cX12_isSeat 10 = .ok (.aload_n 0, 1) := by decide +kernel
theorem dX12_isSeat_11 : decode cX12_isSeat 11 = .ok (.getfield 22, 3) := by decide +kernel
theorem dX12_isSeat_14 : decode cX12_isSeat 14 = .ok (.aload_n 0, 1) := by decide +kernel
theorem dX12_isSeat_15 : decode cX12_isSeat 15 = .ok (.iload_n 1, 1) := by decide +kernel
theorem dX12_isSeat_16 : decode cX12_isSeat 16 = .ok (.invokevirtual 163, 3) := by decide +kernel
theorem dX12_isSeat_19 : decode cX12_isSeat 19 = .ok (.ifCond .eq 7, 3) := by decide +kernel
theorem dX12_isSeat_22 : decode cX12_isSeat 22 = .ok (.iload_n 1, 1) := by decide +kernel
theorem dX12_isSeat_23 : decode cX12_isSeat 23 = .ok (.goto 4, 3) := by decide +kernel
theorem dX12_isSeat_26 : decode cX12_isSeat 26 = .ok (.iconst 0, 1) := by decide +kernel
theorem dX12_isSeat_27 : decode cX12_isSeat 27 = .ok (.iaload, 1) := by decide +kernel
theorem dX12_isSeat_28 : decode cX12_isSeat 28 = .ok (.iconst 1, 1) := by decide +kernel
theorem dX12_isSeat_29 : decode cX12_isSeat 29 = .ok (.isub, 1) := by decide +kernel
theorem dX12_isSeat_30 : decode cX12_isSeat 30 = .ok (.invokestatic 159, 3) := by decide +kernel
theorem dX12_isSeat_33 : decode cX12_isSeat 33 = .ok (.ifCond .eq 7, 3) := by decide +kernel
theorem dX12_isSeat_36 : decode cX12_isSeat 36 = .ok (.iconst 1, 1) := by decide +kernel
theorem dX12_isSeat_37 : decode cX12_isSeat 37 = .ok (.goto 4, 3) := by decide +kernel
theorem dX12_isSeat_40 : decode cX12_isSeat 40 = .ok (.iconst 0, 1) := by decide +kernel
theorem dX12_isSeat_41 : decode cX12_isSeat 41 = .ok (.ireturn, 1) := by decide +kernel
theorem dX12_sort_0 : decode cX12_sort 0 = .ok (.iload_n 1, 1) := by decide +kernel
theorem dX12_sort_1 : decode cX12_sort 1 = .ok (.iconst 0, 1) := by decide +kernel
theorem dX12_sort_2 : decode cX12_sort 2 = .ok (.iconst 3, 1) := by decide +kernel
theorem dX12_sort_3 : decode cX12_sort 3 = .ok (.invokestatic 159, 3) := by decide +kernel
theorem dX12_sort_6 : decode cX12_sort 6 = .ok (.ifCond .ne 5, 3) := by decide +kernel
theorem dX12_sort_9 : decode cX12_sort 9 = .ok (.iconst (-1), 1) := by decide +kernel
theorem dX12_sort_10 : decode cX12_sort 10 = .ok (.ireturn, 1) := by decide +kernel
theorem dX12_sort_11 : decode cX12_sort 11 = .ok (.iload_n 2, 1) := by decide +kernel
theorem dX12_sort_12 : decode cX12_sort 12 = .ok (.ifCond .ne 31, 3) := by decide +kernel
theorem dX12_sort_15 : decode cX12_sort 15 = .ok (.iload_n 3, 1) := by decide +kernel
theorem dX12_sort_16 : decode cX12_sort 16 = .ok (.iconst 0, 1) := by decide +kernel
theorem dX12_sort_17 : decode cX12_sort 17 = .ok (.bipush 40, 2) := by decide +kernel
theorem dX12_sort_19 : decode cX12_sort 19 = .ok (.invokestatic 159, 3) := by decide +kernel
theorem dX12_sort_22 : decode cX12_sort 22 = .ok (.ifCond .eq 21, 3) := by decide +kernel
theorem dX12_sort_25 : decode cX12_sort 25 = .ok (.aload_n 0, 1) := by decide +kernel
theorem dX12_sort_26 : decode cX12_sort 26 = .ok (.getfield 7, 3) := by decide +kernel
theorem dX12_sort_29 : decode cX12_sort 29 = .ok (.iload_n 1, 1) := by decide +kernel
theorem dX12_sort_30 : decode cX12_sort 30 = .ok (.iaload, 1) := by decide +kernel
theorem dX12_sort_31 : decode cX12_sort 31 = .ok (.istore 4, 2) := by decide +kernel
theorem dX12_sort_33 : decode cX12_sort 33 = .ok (.aload_n 0, 1) := by decide +kernel
theorem dX12_sort_34 : decode cX12_sort 34 = .ok (.getfield 7, 3) := by decide +kernel
theorem dX12_sort_37 : decode cX12_sort 37 = .ok (.iload_n 1, 1) := by decide +kernel
theorem dX12_sort_38 : decode cX12_sort 38 = .ok (.iload_n 3, 1) := by decide +kernel
theorem dX12_sort_39 : decode cX12_sort 39 = .ok (.iastore, 1) := by decide +kernel
theorem dX12_sort_40 : decode cX12_sort 40 = .ok (.goto 72, 3) := by decide +kernel
theorem dX12_sort_43 : decode cX12_sort 43 = .ok (.iload_n 2, 1) := by decide +kernel
theorem dX12_sort_44 : decode cX12_sort 44 = .ok (.iconst 1, 1) := by decide +kernel
theorem dX12_sort_45 : decode cX12_sort 45 = .ok (.if_icmp .ne 31, 3) := by decide +kernel
theorem dX12_sort_48 : decode cX12_sort 48 = .ok (.iload_n 3, 1) := by decide +kernel
theorem dX12_sort_49 : decode cX12_sort 49 = .ok (.iconst 0, 1) := by decide +kernel
theorem dX12_sort_50 : decode cX12_sort 50 = .ok (.bipush 40, 2) := by decide +kernel
theorem dX12_sort_52 : decode cX12_sort 52 = .ok (.invokestatic 159, 3) := by decide +kernel
theorem dX12_sort_55 : decode cX12_sort 55 = .ok (.ifCond .eq 21, 3) := by decide +kernel
theorem dX12_sort_58 : decode cX12_sort 58 = .ok (.aload_n 0, 1) := by decide +kernel
theorem dX12_sort_59 : decode cX12_sort 59 = .ok (.getfield 13, 3) := by decide +kernel
theorem dX12_sort_62 : decode cX12_sort 62 = .ok (.iload_n 1, 1) := by decide +kernel
theorem dX12_sort_63 : decode cX12_sort 63 = .ok (.iaload, 1) := by decide +kernel
theorem dX12_sort_64 : decode cX12_sort 64 = .ok (.istore 4, 2) := by decide +kernel
theorem dX12_sort_66 : decode cX12_sort 66 = .ok (.aload_n 0, 1) := by decide +kernel
theorem dX12_sort_67 : decode cX12_sort 67 = .ok (.getfield 13, 3) := by decide +kernel
theorem dX12_sort_70 : decode cX12_sort 70 = .ok (.iload_n 1, 1) := by decide +kernel
theorem dX12_sort_71 : decode cX12_sort 71 = .ok (.iload_n 3, 1) := by decide +kernel
theorem dX12_sort_72 : decode cX12_sort 72 = .ok (.iastore, 1) := by decide +kernel
theorem dX12_sort_73 : decode cX12_sort 73 = .ok (.goto 39, 3) := by decide +kernel
theorem dX12_sort_76 : decode cX12_sort 76 = .ok (.iload_n 2, 1) := by decide +kernel
theorem dX12_sort_77 : decode cX12_sort 77 = .ok (.iconst 2, 1) := by decide +kernel
theorem dX12_sort_78 : decode cX12_sort 78 = .ok (.if_icmp .ne 31, 3) := by decide +kernel
theorem dX12_sort_81 : decode cX12_sort 81 = .ok (.iload_n 3, 1) := by decide +kernel
theorem dX12_sort_82 : decode cX12_sort 82 = .ok (.iconst 0, 1) := by decide +kernel
theorem dX12_sort_83 : decode cX12_sort 83 = .ok (.bipush 9, 2) := by decide +kernel
theorem dX12_sort_85 : decode cX12_sort 85 = .ok (.invokestatic 159, 3) := by decide +kernel
theorem dX12_sort_88 : decode cX12_sort 88 = .ok (.ifCond .eq 21, 3) := by decide +kernel
theorem dX12_sort_91 : decode cX12_sort 91 = .ok (.aload_n 0, 1) := by decide +kernel
theorem dX12_sort_92 : decode cX12_sort 92 = .ok (.getfield 16, 3) := by decide +kernel
theorem dX12_sort_95 : decode cX12_sort 95 = .ok (.iload_n 1, 1) := by decide +kernel
theorem dX12_sort_96 : decode cX12_sort 96 = .ok (.iaload, 1) := by decide +kernel
theorem dX12_sort_97 : decode cX12_sort 97 = .ok (.istore 4, 2) := by decide +kernel
theorem dX12_sort_99 : decode cX12_sort 99 = .ok (.aload_n 0, 1) := by decide +kernel
theorem dX12_sort_100 : decode cX12_sort 100 = .ok (.getfield 16, 3) := by decide +kernel
theorem dX12_sort_103 : decode cX12_sort 103 = .ok (.iload_n 1, 1) := by decide +kernel
theorem dX12_sort_104 : decode cX12_sort 104 = .ok (.iload_n 3, 1) := by decide +kernel
theorem dX12_sort_105 : decode cX12_sort 105 = .ok (.iastore, 1) := by decide +kernel
theorem dX12_sort_106 : decode cX12_sort 106 = .ok (.goto 6, 3) := by decide +kernel
theorem dX12_sort_109 : decode cX12_sort 109 = .ok (.bipush (-2), 2) := by decide +kernel
theorem dX12_sort_111 : decode cX12_sort 111 = .ok (.ireturn, 1) := by decide +kernel
theorem dX12_sort_112 : decode cX12_sort 112 = .ok (.iload 4, 2) := by decide +kernel
theorem dX12_sort_114 : decode cX12_sort 114 = .ok (.ireturn, 1) := by decide +kernel
theorem dX12_row_0 : decode cX12_row 0 = .ok (.iload_n 1, 1) := by decide +kernel
theorem dX12_row_1 : decode cX12_row 1 = .ok (.iconst 0, 1) := by decide +kernel
theorem dX12_row_2 : decode cX12_row 2 = .ok (.iconst 5, 1) := by decide +kernel
theorem dX12_row_3 : decode cX12_row 3 = .ok (.invokestatic 159, 3) := by decide +kernel
theorem dX12_row_6 : decode cX12_row 6 = .ok (.ifCond .eq 23, 3) := by decide +kernel
theorem dX12_row_9 : decode cX12_row 9 = .ok (.iload_n 2, 1) := by decide +kernel
theorem dX12_row_10 : decode cX12_row 10 = .ok (.iconst 1, 1) := by decide +kernel
theorem dX12_row_11 : decode cX12_row 11 = .ok (.bipush 8, 2) := by decide +kernel
theorem dX12_row_13 : decode cX12_row 13 = .ok (.invokestatic 159, 3) := by decide +kernel
theorem dX12_row_16 : decode cX12_row 16 = .ok (.ifCond .eq 13, 3) := by decide +kernel
theorem dX12_row_19 : decode cX12_row 19 = .ok (.iload_n 3, 1) := by decide +kernel
theorem dX12_row_20 : decode cX12_row 20 = .ok (.iconst 0, 1) := by decide +kernel
theorem dX12_row_21 : decode cX12_row 21 = .ok (.bipush 20, 2) := by decide +kernel
theorem dX12_row_23 : decode cX12_row 23 = .ok (.invokestatic 159, 3) := by decide +kernel
theorem dX12_row_26 : decode cX12_row 26 = .ok (.ifCond .ne 6, 3) := by decide +kernel
theorem dX12_row_29 : decode cX12_row 29 = .ok (.bipush (-2), 2) := by decide +kernel
theorem dX12_row_31 : decode cX12_row 31 = .ok (.ireturn, 1) := by decide +kernel
theorem dX12_row_32 : decode cX12_row 32 = .ok (.aload_n 0, 1) := by decide +kernel
theorem dX12_row_33 : decode cX12_row 33 = .ok (.getfield 156, 3) := by decide +kernel
theorem dX12_row_36 : decode cX12_row 36 = .ok (.bipush 6, 2) := by decide +kernel
theorem dX12_row_38 : decode cX12_row 38 = .ok (.if_icmp .ne 6, 3) := by decide +kernel
theorem dX12_row_41 : decode cX12_row 41 = .ok (.bipush (-4), 2) := by decide +kernel
theorem dX12_row_43 : decode cX12_row 43 = .ok (.ireturn, 1) := by decide +kernel
theorem dX12_row_44 : decode cX12_row 44 = .ok (.aload_n 0, 1) := by decide +kernel
theorem dX12_row_45 : decode cX12_row 45 = .ok (.getfield 19, 3) := by decide +kernel
theorem dX12_row_48 : decode cX12_row 48 = .ok (.aload_n 0, 1) := by decide +kernel
theorem dX12_row_49 : decode cX12_row 49 = .ok (.getfield 156, 3) := by decide +kernel
theorem dX12_row_52 : decode cX12_row 52 = .ok (.iload_n 1, 1) := by decide +kernel
theorem dX12_row_53 : decode cX12_row 53 = .ok (.iastore, 1) := by decide +kernel
theorem dX12_row_54 : decode cX12_row 54 = .ok (.aload_n 0, 1) := by decide +kernel
theorem dX12_row_55 : decode cX12_row 55 = .ok (.getfield 22, 3) := by decide +kernel
theorem dX12_row_58 : decode cX12_row 58 = .ok (.aload_n 0, 1) := by decide +kernel
theorem dX12_row_59 : decode cX12_row 59 = .ok (.getfield 156, 3) := by decide +kernel
theorem dX12_row_62 : decode cX12_row 62 = .ok (.iload_n 2, 1) := by decide +kernel
theorem dX12_row_63 : decode cX12_row 63 = .ok (.iastore, 1) := by decide +kernel
theorem dX12_row_64 : decode cX12_row 64 = .ok (.aload_n 0, 1) := by decide +kernel
theorem dX12_row_65 : decode cX12_row 65 = .ok (.getfield 25, 3) := by decide +kernel
theorem dX12_row_68 : decode cX12_row 68 = .ok (.aload_n 0, 1) := by decide +kernel
theorem dX12_row_69 : decode cX12_row 69 = .ok (.getfield 156, 3) := by decide +kernel
theorem dX12_row_72 : decode cX12_row 72 = .ok (.iload_n 3, 1) := by decide +kernel
theorem dX12_row_73 : decode cX12_row 73 = .ok (.iastore, 1) := by decide +kernel
theorem dX12_row_74 : decode cX12_row 74 = .ok (.aload_n 0, 1) := by decide +kernel
theorem dX12_row_75 : decode cX12_row 75 = .ok (.dup, 1) := by decide +kernel
theorem dX12_row_76 : decode cX12_row 76 = .ok (.getfield 156, 3) := by decide +kernel
theorem dX12_row_79 : decode cX12_row 79 = .ok (.iconst 1, 1) := by decide +kernel
theorem dX12_row_80 : decode cX12_row 80 = .ok (.iadd, 1) := by decide +kernel
theorem dX12_row_81 : decode cX12_row 81 = .ok (.putfield 156, 3) := by decide +kernel
theorem dX12_row_84 : decode cX12_row 84 = .ok (.aload_n 0, 1) := by decide +kernel
theorem dX12_row_85 : decode cX12_row 85 = .ok (.getfield 156, 3) := by decide +kernel
theorem dX12_row_88 : decode cX12_row 88 = .ok (.iconst 1, 1) := by decide +kernel
theorem dX12_row_89 : decode cX12_row 89 = .ok (.isub, 1) := by decide +kernel
theorem dX12_row_90 : decode cX12_row 90 = .ok (.ireturn, 1) := by decide +kernel
theorem dX12_set_0 : decode cX12_set 0 = .ok (.aload_n 0, 1) := by decide +kernel
theorem dX12_set_1 : decode cX12_set 1 = .ok (.iload_n 1, 1) := by decide +kernel
theorem dX12_set_2 : decode cX12_set 2 = .ok (.invokevirtual 163, 3) := by decide +kernel
theorem dX12_set_5 : decode cX12_set 5 = .ok (.ifCond .ne 6, 3) := by decide +kernel
theorem dX12_set_8 : decode cX12_set 8 = .ok (.bipush (-5), 2) := by decide +kernel
theorem dX12_set_10 : decode cX12_set 10 = .ok (.ireturn, 1) := by decide +kernel
theorem dX12_set_11 : decode cX12_set 11 = .ok (.iload_n 2, 1) := by decide +kernel
theorem dX12_set_12 : decode cX12_set 12 = .ok (.ifCond .ne 31, 3) := by decide +kernel
theorem dX12_set_15 : decode cX12_set 15 = .ok (.iload_n 3, 1) := by decide +kernel
theorem dX12_set_16 : decode cX12_set 16 = .ok (.iconst 0, 1) := by decide +kernel
theorem dX12_set_17 : decode cX12_set 17 = .ok (.bipush 99, 2) := by decide +kernel
theorem dX12_set_19 : decode cX12_set 19 = .ok (.invokestatic 159, 3) := by decide +kernel
theorem dX12_set_22 : decode cX12_set 22 = .ok (.ifCond .eq 21, 3) := by decide +kernel
theorem dX12_set_25 : decode cX12_set 25 = .ok (.aload_n 0, 1) := by decide +kernel
theorem dX12_set_26 : decode cX12_set 26 = .ok (.getfield 28, 3) := by decide +kernel
theorem dX12_set_29 : decode cX12_set 29 = .ok (.iload_n 1, 1) := by decide +kernel
theorem dX12_set_30 : decode cX12_set 30 = .ok (.iaload, 1) := by decide +kernel
theorem dX12_set_31 : decode cX12_set 31 = .ok (.istore 4, 2) := by decide +kernel
theorem dX12_set_33 : decode cX12_set 33 = .ok (.aload_n 0, 1) := by decide +kernel
theorem dX12_set_34 : decode cX12_set 34 = .ok (.getfield 28, 3) := by decide +kernel
theorem dX12_set_37 : decode cX12_set 37 = .ok (.iload_n 1, 1) := by decide +kernel
theorem dX12_set_38 : decode cX12_set 38 = .ok (.iload_n 3, 1) := by decide +kernel
theorem dX12_set_39 : decode cX12_set 39 = .ok (.iastore, 1) := by decide +kernel
theorem dX12_set_40 : decode cX12_set 40 = .ok (.goto 38, 3) := by decide +kernel
theorem dX12_set_43 : decode cX12_set 43 = .ok (.iload_n 2, 1) := by decide +kernel
theorem dX12_set_44 : decode cX12_set 44 = .ok (.iconst 1, 1) := by decide +kernel
theorem dX12_set_45 : decode cX12_set 45 = .ok (.if_icmp .ne 30, 3) := by decide +kernel
theorem dX12_set_48 : decode cX12_set 48 = .ok (.iload_n 3, 1) := by decide +kernel
theorem dX12_set_49 : decode cX12_set 49 = .ok (.iconst 0, 1) := by decide +kernel
theorem dX12_set_50 : decode cX12_set 50 = .ok (.iconst 1, 1) := by decide +kernel
theorem dX12_set_51 : decode cX12_set 51 = .ok (.invokestatic 159, 3) := by decide +kernel
theorem dX12_set_54 : decode cX12_set 54 = .ok (.ifCond .eq 21, 3) := by decide +kernel
theorem dX12_set_57 : decode cX12_set 57 = .ok (.aload_n 0, 1) := by decide +kernel
theorem dX12_set_58 : decode cX12_set 58 = .ok (.getfield 31, 3) := by decide +kernel
theorem dX12_set_61 : decode cX12_set 61 = .ok (.iload_n 1, 1) := by decide +kernel
theorem dX12_set_62 : decode cX12_set 62 = .ok (.iaload, 1) := by decide +kernel
theorem dX12_set_63 : decode cX12_set 63 = .ok (.istore 4, 2) := by decide +kernel
theorem dX12_set_65 : decode cX12_set 65 = .ok (.aload_n 0, 1) := by decide +kernel
theorem dX12_set_66 : decode cX12_set 66 = .ok (.getfield 31, 3) := by decide +kernel
theorem dX12_set_69 : decode cX12_set 69 = .ok (.iload_n 1, 1) := by decide +kernel
theorem dX12_set_70 : decode cX12_set 70 = .ok (.iload_n 3, 1) := by decide +kernel
theorem dX12_set_71 : decode cX12_set 71 = .ok (.iastore, 1) := by decide +kernel
theorem dX12_set_72 : decode cX12_set 72 = .ok (.goto 6, 3) := by decide +kernel
theorem dX12_set_75 : decode cX12_set 75 = .ok (.bipush (-7), 2) := by decide +kernel
theorem dX12_set_77 : decode cX12_set 77 = .ok (.ireturn, 1) := by decide +kernel
theorem dX12_set_78 : decode cX12_set 78 = .ok (.iload 4, 2) := by decide +kernel
theorem dX12_set_80 : decode cX12_set 80 = .ok (.ireturn, 1) := by decide +kernel
theorem dX12_sit_0 : decode cX12_sit 0 = .ok (.aload_n 0, 1) := by decide +kernel
theorem dX12_sit_1 : decode cX12_sit 1 = .ok (.iload_n 1, 1) := by decide +kernel
theorem dX12_sit_2 : decode cX12_sit 2 = .ok (.iload_n 2, 1) := by decide +kernel
theorem dX12_sit_3 : decode cX12_sit 3 = .ok (.invokevirtual 167, 3) := by decide +kernel
theorem dX12_sit_6 : decode cX12_sit 6 = .ok (.ifCond .ne 5, 3) := by decide +kernel
theorem dX12_sit_9 : decode cX12_sit 9 = .ok (.iconst (-1), 1) := by decide +kernel
theorem dX12_sit_10 : decode cX12_sit 10 = .ok (.ireturn, 1) := by decide +kernel
theorem dX12_sit_11 : decode cX12_sit 11 = .ok (.iload_n 3, 1) := by decide +kernel
theorem dX12_sit_12 : decode cX12_sit 12 = .ok (.iconst 0, 1) := by decide +kernel
theorem dX12_sit_13 : decode cX12_sit 13 = .ok (.iconst 3, 1) := by decide +kernel
theorem dX12_sit_14 : decode cX12_sit 14 = .ok (.invokestatic 159, 3) := by decide +kernel
theorem dX12_sit_17 : decode cX12_sit 17 = .ok (.ifCond .ne 6, 3) := by decide +kernel
theorem dX12_sit_20 : decode cX12_sit 20 = .ok (.bipush (-2), 2) := by decide +kernel
theorem dX12_sit_22 : decode cX12_sit 22 = .ok (.ireturn, 1) := by decide +kernel
theorem dX12_sit_23 : decode cX12_sit 23 = .ok (.aload_n 0, 1) := by decide +kernel
theorem dX12_sit_24 : decode cX12_sit 24 = .ok (.getfield 34, 3) := by decide +kernel
theorem dX12_sit_27 : decode cX12_sit 27 = .ok (.bipush 8, 2) := by decide +kernel
theorem dX12_sit_29 : decode cX12_sit 29 = .ok (.iload_n 1, 1) := by decide +kernel
theorem dX12_sit_30 : decode cX12_sit 30 = .ok (.imul, 1) := by decide +kernel
theorem dX12_sit_31 : decode cX12_sit 31 = .ok (.iload_n 2, 1) := by decide +kernel
theorem dX12_sit_32 : decode cX12_sit 32 = .ok (.iadd, 1) := by decide +kernel
theorem dX12_sit_33 : decode cX12_sit 33 = .ok (.iaload, 1) := by decide +kernel
theorem dX12_sit_34 : decode cX12_sit 34 = .ok (.istore 4, 2) := by decide +kernel
theorem dX12_sit_36 : decode cX12_sit 36 = .ok (.aload_n 0, 1) := by decide +kernel
theorem dX12_sit_37 : decode cX12_sit 37 = .ok (.getfield 34, 3) := by decide +kernel
theorem dX12_sit_40 : decode cX12_sit 40 = .ok (.bipush 8, 2) := by decide +kernel
theorem dX12_sit_42 : decode cX12_sit 42 = .ok (.iload_n 1, 1) := by decide +kernel
theorem dX12_sit_43 : decode cX12_sit 43 = .ok (.imul, 1) := by decide +kernel
theorem dX12_sit_44 : decode cX12_sit 44 = .ok (.iload_n 2, 1) := by decide +kernel
theorem dX12_sit_45 : decode cX12_sit 45 = .ok (.iadd, 1) := by decide +kernel
theorem dX12_sit_46 : decode cX12_sit 46 = .ok (.iload_n 3, 1) := by decide +kernel
theorem dX12_sit_47 : decode cX12_sit 47 = .ok (.iastore, 1) := by decide +kernel
theorem dX12_sit_48 : decode cX12_sit 48 = .ok (.iload 4, 2) := by decide +kernel
theorem dX12_sit_50 : decode cX12_sit 50 = .ok (.ireturn, 1) := by decide +kernel
theorem dX12_placeOf_0 : decode cX12_placeOf 0 = .ok (.iconst 2, 1) := by decide +kernel
theorem dX12_placeOf_1 : decode cX12_placeOf 1 = .ok (.iload_n 2, 1) := by decide +kernel
theorem dX12_placeOf_2 : decode cX12_placeOf 2 = .ok (.imul, 1) := by decide +kernel
theorem dX12_placeOf_3 : decode cX12_placeOf 3 = .ok (.aload_n 0, 1) := by decide +kernel
theorem dX12_placeOf_4 : decode cX12_placeOf 4 = .ok (.getfield 31, 3) := by decide +kernel
theorem dX12_placeOf_7 : decode cX12_placeOf 7 = .ok (.iload_n 1, 1) := by decide +kernel
theorem dX12_placeOf_8 : decode cX12_placeOf 8 = .ok (.iaload, 1) := by decide +kernel
theorem dX12_placeOf_9 : decode cX12_placeOf 9 = .ok (.iadd, 1) := by decide +kernel
theorem dX12_placeOf_10 : decode cX12_placeOf 10 = .ok (.aload_n 0, 1) := by decide +kernel
theorem dX12_placeOf_11 : decode cX12_placeOf 11 = .ok (.getfield 19, 3) := by decide +kernel
theorem dX12_placeOf_14 : decode cX12_placeOf 14 = .ok (.iload_n 1, 1) := by decide +kernel
theorem dX12_placeOf_15 : decode cX12_placeOf 15 = .ok (.iaload, 1) := by decide +kernel
theorem dX12_placeOf_16 : decode cX12_placeOf 16 = .ok (.iconst 1, 1) := by decide +kernel
theorem dX12_placeOf_17 : decode cX12_placeOf 17 = .ok (.if_icmp .ne 7, 3) := by decide +kernel
theorem dX12_placeOf_20 : decode cX12_placeOf 20 = .ok (.iconst 1, 1) := by decide +kernel
theorem dX12_placeOf_21 : decode cX12_placeOf 21 = .ok (.goto 28, 3) := by decide +kernel
theorem dX12_placeOf_24 : decode cX12_placeOf 24 = .ok (.aload_n 0, 1) := by decide +kernel
theorem dX12_placeOf_25 : decode cX12_placeOf 25 = .ok (.getfield 19, 3) := by decide +kernel
theorem dX12_placeOf_28 : decode cX12_placeOf 28 = .ok (.iload_n 1, 1) := by decide +kernel
theorem dX12_placeOf_29 : decode cX12_placeOf 29 = .ok (.iaload, 1) := by decide +kernel
theorem dX12_placeOf_30 : decode cX12_placeOf 30 = .ok (.iconst 3, 1) := by decide +kernel
theorem dX12_placeOf_31 : decode cX12_placeOf 31 = .ok (.if_icmp .ne 17, 3) := by decide +kernel
theorem dX12_placeOf_34 : decode cX12_placeOf 34 = .ok (.iconst 1, 1) := by decide +kernel
theorem dX12_placeOf_35 : decode cX12_placeOf 35 = .ok (.aload_n 0, 1) := by decide +kernel
theorem dX12_placeOf_36 : decode cX12_placeOf 36 = .ok (.getfield 25, 3) := by decide +kernel
theorem dX12_placeOf_39 : decode cX12_placeOf 39 = .ok (.iload_n 1, 1) := by decide +kernel
theorem dX12_placeOf_40 : decode cX12_placeOf 40 = .ok (.iaload, 1) := by decide +kernel
theorem dX12_placeOf_41 : decode cX12_placeOf 41 = .ok (.bipush 10, 2) := by decide +kernel
theorem dX12_placeOf_43 : decode cX12_placeOf 43 = .ok (.irem, 1) := by decide +kernel
theorem dX12_placeOf_44 : decode cX12_placeOf 44 = .ok (.iadd, 1) := by decide +kernel
theorem dX12_placeOf_45 : decode cX12_placeOf 45 = .ok (.goto 4, 3) := by decide +kernel
theorem dX12_placeOf_48 : decode cX12_placeOf 48 = .ok (.iconst 0, 1) := by decide +kernel
theorem dX12_placeOf_49 : decode cX12_placeOf 49 = .ok (.iadd, 1) := by decide +kernel
theorem dX12_placeOf_50 : decode cX12_placeOf 50 = .ok (.ireturn, 1) := by decide +kernel
theorem dX12_floorOf_0 : decode cX12_floorOf 0 = .ok (.aload_n 0, 1) := by decide +kernel
theorem dX12_floorOf_1 : decode cX12_floorOf 1 = .ok (.getfield 28, 3) := by decide +kernel
theorem dX12_floorOf_4 : decode cX12_floorOf 4 = .ok (.iload_n 1, 1) := by decide +kernel
theorem dX12_floorOf_5 : decode cX12_floorOf 5 = .ok (.iaload, 1) := by decide +kernel
theorem dX12_floorOf_6 : decode cX12_floorOf 6 = .ok (.aload_n 0, 1) := by decide +kernel
theorem dX12_floorOf_7 : decode cX12_floorOf 7 = .ok (.getfield 19, 3) := by decide +kernel
theorem dX12_floorOf_10 : decode cX12_floorOf 10 = .ok (.iload_n 1, 1) := by decide +kernel
theorem dX12_floorOf_11 : decode cX12_floorOf 11 = .ok (.iaload, 1) := by decide +kernel
theorem dX12_floorOf_12 : decode cX12_floorOf 12 = .ok (.iconst 2, 1) := by decide +kernel
theorem dX12_floorOf_13 : decode cX12_floorOf 13 = .ok (.if_icmp .ne 12, 3) := by decide +kernel
theorem dX12_floorOf_16 : decode cX12_floorOf 16 = .ok (.aload_n 0, 1) := by decide +kernel
theorem dX12_floorOf_17 : decode cX12_floorOf 17 = .ok (.getfield 25, 3) := by decide +kernel
theorem dX12_floorOf_20 : decode cX12_floorOf 20 = .ok (.iload_n 1, 1) := by decide +kernel
theorem dX12_floorOf_21 : decode cX12_floorOf 21 = .ok (.iaload, 1) := by decide +kernel
theorem dX12_floorOf_22 : decode cX12_floorOf 22 = .ok (.goto 25, 3) := by decide +kernel
theorem dX12_floorOf_25 : decode cX12_floorOf 25 = .ok (.aload_n 0, 1) := by decide +kernel
theorem dX12_floorOf_26 : decode cX12_floorOf 26 = .ok (.getfield 19, 3) := by decide +kernel
theorem dX12_floorOf_29 : decode cX12_floorOf 29 = .ok (.iload_n 1, 1) := by decide +kernel
theorem dX12_floorOf_30 : decode cX12_floorOf 30 = .ok (.iaload, 1) := by decide +kernel
theorem dX12_floorOf_31 : decode cX12_floorOf 31 = .ok (.iconst 4, 1) := by decide +kernel
theorem dX12_floorOf_32 : decode cX12_floorOf 32 = .ok (.if_icmp .ne 14, 3) := by decide +kernel
theorem dX12_floorOf_35 : decode cX12_floorOf 35 = .ok (.iconst 3, 1) := by decide +kernel
theorem dX12_floorOf_36 : decode cX12_floorOf 36 = .ok (.aload_n 0, 1) := by decide +kernel
theorem dX12_floorOf_37 : decode cX12_floorOf 37 = .ok (.getfield 25, 3) := by decide +kernel
theorem dX12_floorOf_40 : decode cX12_floorOf 40 = .ok (.iload_n 1, 1) := by decide +kernel
theorem dX12_floorOf_41 : decode cX12_floorOf 41 = .ok (.iaload, 1) := by decide +kernel
theorem dX12_floorOf_42 : decode cX12_floorOf 42 = .ok (.imul, 1) := by decide +kernel
theorem dX12_floorOf_43 : decode cX12_floorOf 43 = .ok (.goto 4, 3) := by decide +kernel
theorem dX12_floorOf_46 : decode cX12_floorOf 46 = .ok (.iconst 0, 1) := by decide +kernel
theorem dX12_floorOf_47 : decode cX12_floorOf 47 = .ok (.iadd, 1) := by decide +kernel
theorem dX12_floorOf_48 : decode cX12_floorOf 48 = .ok (.ireturn, 1) := by decide +kernel
theorem dX12_farOf_0 : decode cX12_farOf 0 = .ok (.bipush 10, 2) := by decide +kernel
theorem dX12_farOf_2 : decode cX12_farOf 2 = .ok (.bipush 10, 2) := by decide +kernel
theorem dX12_farOf_4 : decode cX12_farOf 4 = .ok (.iload_n 1, 1) := by decide +kernel
theorem dX12_farOf_5 : decode cX12_farOf 5 = .ok (.imul, 1) := by decide +kernel
theorem dX12_farOf_6 : decode cX12_farOf 6 = .ok (.iadd, 1) := by decide +kernel
theorem dX12_farOf_7 : decode cX12_farOf 7 = .ok (.aload_n 0, 1) := by decide +kernel
theorem dX12_farOf_8 : decode cX12_farOf 8 = .ok (.getfield 19, 3) := by decide +kernel
theorem dX12_farOf_11 : decode cX12_farOf 11 = .ok (.iload_n 1, 1) := by decide +kernel
theorem dX12_farOf_12 : decode cX12_farOf 12 = .ok (.iaload, 1) := by decide +kernel
theorem dX12_farOf_13 : decode cX12_farOf 13 = .ok (.iconst 3, 1) := by decide +kernel
theorem dX12_farOf_14 : decode cX12_farOf 14 = .ok (.if_icmp .ne 7, 3) := by decide +kernel
theorem dX12_farOf_17 : decode cX12_farOf 17 = .ok (.iconst 3, 1) := by decide +kernel
theorem dX12_farOf_18 : decode cX12_farOf 18 = .ok (.goto 4, 3) := by decide +kernel
theorem dX12_farOf_21 : decode cX12_farOf 21 = .ok (.iconst 0, 1) := by decide +kernel
theorem dX12_farOf_22 : decode cX12_farOf 22 = .ok (.isub, 1) := by decide +kernel
theorem dX12_farOf_23 : decode cX12_farOf 23 = .ok (.ireturn, 1) := by decide +kernel
theorem dX12_isAmong_0 : decode cX12_isAmong 0 = .ok (.aload_n 0, 1) := by decide +kernel
theorem dX12_isAmong_1 : decode cX12_isAmong 1 = .ok (.getfield 19, 3) := by decide +kernel
theorem dX12_isAmong_4 : decode cX12_isAmong 4 = .ok (.iload_n 1, 1) := by decide +kernel
theorem dX12_isAmong_5 : decode cX12_isAmong 5 = .ok (.iaload, 1) := by decide +kernel
theorem dX12_isAmong_6 : decode cX12_isAmong 6 = .ok (.iconst 4, 1) := by decide +kernel
theorem dX12_isAmong_7 : decode cX12_isAmong 7 = .ok (.if_icmp .eq 7, 3) := by decide +kernel
theorem dX12_isAmong_10 : decode cX12_isAmong 10 = .ok (.iconst 1, 1) := by decide +kernel
theorem dX12_isAmong_11 : decode cX12_isAmong 11 = .ok (.goto 4, 3) := by decide +kernel
theorem dX12_isAmong_14 : decode cX12_isAmong 14 = .ok (.iconst 0, 1) := by decide +kernel
theorem dX12_isAmong_15 : decode cX12_isAmong 15 = .ok (.ireturn, 1) := by decide +kernel
theorem dX12_above_0 : decode cX12_above 0 = .ok (.aload_n 0, 1) := by decide +kernel
theorem dX12_above_1 : decode cX12_above 1 = .ok (.getfield 19, 3) := by decide +kernel
theorem dX12_above_4 : decode cX12_above 4 = .ok (.iload_n 1, 1) := by decide +kernel
theorem dX12_above_5 : decode cX12_above 5 = .ok (.iaload, 1) := by decide +kernel
theorem dX12_above_6 : decode cX12_above 6 = .ok (.iconst 5, 1) := by decide +kernel
theorem dX12_above_7 : decode cX12_above 7 = .ok (.if_icmp .ne 12, 3) := by decide +kernel
theorem dX12_above_10 : decode cX12_above 10 = .ok (.aload_n 0, 1) := by decide +kernel
theorem dX12_above_11 : decode cX12_above 11 = .ok (.getfield 25, 3) := by decide +kernel
theorem dX12_above_14 : decode cX12_above 14 = .ok (.iload_n 1, 1) := by decide +kernel
theorem dX12_above_15 : decode cX12_above 15 = .ok (.iaload, 1) := by decide +kernel
theorem dX12_above_16 : decode cX12_above 16 = .ok (.goto 4, 3) := by decide +kernel
theorem dX12_above_19 : decode cX12_above 19 = .ok (.iconst 0, 1) := by decide +kernel
theorem dX12_above_20 : decode cX12_above 20 = .ok (.istore_n 3, 1) := by decide +kernel
theorem dX12_above_21 : decode cX12_above 21 = .ok (.aload_n 0, 1) := by decide +kernel
theorem dX12_above_22 : decode cX12_above 22 = .ok (.iload_n 1, 1) := by decide +kernel
theorem dX12_above_23 : decode cX12_above 23 = .ok (.invokevirtual 171, 3) := by decide +kernel
theorem dX12_above_26 : decode cX12_above 26 = .ok (.iload_n 2, 1) := by decide +kernel
theorem dX12_above_27 : decode cX12_above 27 = .ok (.iload_n 3, 1) := by decide +kernel
theorem dX12_above_28 : decode cX12_above 28 = .ok (.if_icmp .le 9, 3) := by decide +kernel
theorem dX12_above_31 : decode cX12_above 31 = .ok (.iload_n 2, 1) := by decide +kernel
theorem dX12_above_32 : decode cX12_above 32 = .ok (.iload_n 3, 1) := by decide +kernel
theorem dX12_above_33 : decode cX12_above 33 = .ok (.isub, 1) := by decide +kernel
theorem dX12_above_34 : decode cX12_above 34 = .ok (.goto 4, 3) := by decide +kernel
theorem dX12_above_37 : decode cX12_above 37 = .ok (.iconst 0, 1) := by decide +kernel
theorem dX12_above_38 : decode cX12_above 38 = .ok (.iadd, 1) := by decide +kernel
theorem dX12_above_39 : decode cX12_above 39 = .ok (.ireturn, 1) := by decide +kernel
theorem dX12_eyesOf_0 : decode cX12_eyesOf 0 = .ok (.aload_n 0, 1) := by decide +kernel
theorem dX12_eyesOf_1 : decode cX12_eyesOf 1 = .ok (.iload_n 1, 1) := by decide +kernel
theorem dX12_eyesOf_2 : decode cX12_eyesOf 2 = .ok (.aload_n 0, 1) := by decide +kernel
theorem dX12_eyesOf_3 : decode cX12_eyesOf 3 = .ok (.getfield 7, 3) := by decide +kernel
theorem dX12_eyesOf_6 : decode cX12_eyesOf 6 = .ok (.aload_n 0, 1) := by decide +kernel
theorem dX12_eyesOf_7 : decode cX12_eyesOf 7 = .ok (.getfield 34, 3) := by decide +kernel
theorem dX12_eyesOf_10 : decode cX12_eyesOf 10 = .ok (.bipush 8, 2) := by decide +kernel
theorem dX12_eyesOf_12 : decode cX12_eyesOf 12 = .ok (.iload_n 1, 1) := by decide +kernel
theorem dX12_eyesOf_13 : decode cX12_eyesOf 13 = .ok (.imul, 1) := by decide +kernel
theorem dX12_eyesOf_14 : decode cX12_eyesOf 14 = .ok (.iload_n 2, 1) := by decide +kernel
theorem dX12_eyesOf_15 : decode cX12_eyesOf 15 = .ok (.iadd, 1) := by decide +kernel
theorem dX12_eyesOf_16 : decode cX12_eyesOf 16 = .ok (.iaload, 1) := by decide +kernel
theorem dX12_eyesOf_17 : decode cX12_eyesOf 17 = .ok (.iaload, 1) := by decide +kernel
theorem dX12_eyesOf_18 : decode cX12_eyesOf 18 = .ok (.invokevirtual 175, 3) := by decide +kernel
theorem dX12_eyesOf_21 : decode cX12_eyesOf 21 = .ok (.ireturn, 1) := by decide +kernel
theorem dX12_topOf_0 : decode cX12_topOf 0 = .ok (.aload_n 0, 1) := by decide +kernel
theorem dX12_topOf_1 : decode cX12_topOf 1 = .ok (.iload_n 1, 1) := by decide +kernel
theorem dX12_topOf_2 : decode cX12_topOf 2 = .ok (.aload_n 0, 1) := by decide +kernel
theorem dX12_topOf_3 : decode cX12_topOf 3 = .ok (.getfield 13, 3) := by decide +kernel
theorem dX12_topOf_6 : decode cX12_topOf 6 = .ok (.aload_n 0, 1) := by decide +kernel
theorem dX12_topOf_7 : decode cX12_topOf 7 = .ok (.getfield 34, 3) := by decide +kernel
theorem dX12_topOf_10 : decode cX12_topOf 10 = .ok (.bipush 8, 2) := by decide +kernel
theorem dX12_topOf_12 : decode cX12_topOf 12 = .ok (.iload_n 1, 1) := by decide +kernel
theorem dX12_topOf_13 : decode cX12_topOf 13 = .ok (.imul, 1) := by decide +kernel
theorem dX12_topOf_14 : decode cX12_topOf 14 = .ok (.iload_n 2, 1) := by decide +kernel
theorem dX12_topOf_15 : decode cX12_topOf 15 = .ok (.iadd, 1) := by decide +kernel
theorem dX12_topOf_16 : decode cX12_topOf 16 = .ok (.iaload, 1) := by decide +kernel
theorem dX12_topOf_17 : decode cX12_topOf 17 = .ok (.iaload, 1) := by decide +kernel
theorem dX12_topOf_18 : decode cX12_topOf 18 = .ok (.invokevirtual 175, 3) := by decide +kernel
theorem dX12_topOf_21 : decode cX12_topOf 21 = .ok (.bipush 8, 2) := by decide +kernel
theorem dX12_topOf_23 : decode cX12_topOf 23 = .ok (.iload_n 1, 1) := by decide +kernel
theorem dX12_topOf_24 : decode cX12_topOf 24 = .ok (.imul, 1) := by decide +kernel
theorem dX12_topOf_25 : decode cX12_topOf 25 = .ok (.iload_n 2, 1) := by decide +kernel
theorem dX12_topOf_26 : decode cX12_topOf 26 = .ok (.iadd, 1) := by decide +kernel
theorem dX12_topOf_27 : decode cX12_topOf 27 = .ok (.aload_n 0, 1) := by decide +kernel
theorem dX12_topOf_28 : decode cX12_topOf 28 = .ok (.getfield 65, 3) := by decide +kernel
theorem dX12_topOf_31 : decode cX12_topOf 31 = .ok (.if_icmp .ne 10, 3) := by decide +kernel
theorem dX12_topOf_34 : decode cX12_topOf 34 = .ok (.aload_n 0, 1) := by decide +kernel
theorem dX12_topOf_35 : decode cX12_topOf 35 = .ok (.getfield 179, 3) := by decide +kernel
theorem dX12_topOf_38 : decode cX12_topOf 38 = .ok (.goto 4, 3) := by decide +kernel
theorem dX12_topOf_41 : decode cX12_topOf 41 = .ok (.iconst 0, 1) := by decide +kernel
theorem dX12_topOf_42 : decode cX12_topOf 42 = .ok (.iadd, 1) := by decide +kernel
theorem dX12_topOf_43 : decode cX12_topOf 43 = .ok (.ireturn, 1) := by decide +kernel
theorem dX12_told_0 : decode cX12_told 0 = .ok (.aload_n 0, 1) := by decide +kernel
theorem dX12_told_1 : decode cX12_told 1 = .ok (.iload_n 1, 1) := by decide +kernel
theorem dX12_told_2 : decode cX12_told 2 = .ok (.iload_n 2, 1) := by decide +kernel
theorem dX12_told_3 : decode cX12_told 3 = .ok (.invokevirtual 167, 3) := by decide +kernel
theorem dX12_told_6 : decode cX12_told 6 = .ok (.ifCond .ne 6, 3) := by decide +kernel
theorem dX12_told_9 : decode cX12_told 9 = .ok (.bipush (-5), 2) := by decide +kernel
theorem dX12_told_11 : decode cX12_told 11 = .ok (.ireturn, 1) := by decide +kernel
theorem dX12_told_12 : decode cX12_told 12 = .ok (.iload_n 3, 1) := by decide +kernel
theorem dX12_told_13 : decode cX12_told 13 = .ok (.tableswitch 113 0 7 #[47, 54, 61, 67, 73, 85, 92, 99], 47) := by decide +kernel
theorem dX12_told_60 : decode cX12_told 60 = .ok (.aload_n 0, 1) := by decide +kernel
theorem dX12_told_61 : decode cX12_told 61 = .ok (.getfield 19, 3) := by decide +kernel
theorem dX12_told_64 : decode cX12_told 64 = .ok (.iload_n 1, 1) := by decide +kernel
theorem dX12_told_65 : decode cX12_told 65 = .ok (.iaload, 1) := by decide +kernel
theorem dX12_told_66 : decode cX12_told 66 = .ok (.ireturn, 1) := by decide +kernel
theorem dX12_told_67 : decode cX12_told 67 = .ok (.aload_n 0, 1) := by decide +kernel
theorem dX12_told_68 : decode cX12_told 68 = .ok (.iload_n 1, 1) := by decide +kernel
theorem dX12_told_69 : decode cX12_told 69 = .ok (.iload_n 2, 1) := by decide +kernel
theorem dX12_told_70 : decode cX12_told 70 = .ok (.invokevirtual 182, 3) := by decide +kernel
theorem dX12_told_73 : decode cX12_told 73 = .ok (.ireturn, 1) := by decide +kernel
theorem dX12_told_74 : decode cX12_told 74 = .ok (.aload_n 0, 1) := by decide +kernel
theorem dX12_told_75 : decode cX12_told 75 = .ok (.iload_n 1, 1) := by decide +kernel
theorem dX12_told_76 : decode cX12_told 76 = .ok (.invokevirtual 171, 3) := by decide +kernel
theorem dX12_told_79 : decode cX12_told 79 = .ok (.ireturn, 1) := by decide +kernel
theorem dX12_told_80 : decode cX12_told 80 = .ok (.aload_n 0, 1) := by decide +kernel
theorem dX12_told_81 : decode cX12_told 81 = .ok (.iload_n 1, 1) := by decide +kernel
theorem dX12_told_82 : decode cX12_told 82 = .ok (.invokevirtual 185, 3) := by decide +kernel
theorem dX12_told_85 : decode cX12_told 85 = .ok (.ireturn, 1) := by decide +kernel
theorem dX12_told_86 : decode cX12_told 86 = .ok (.aload_n 0, 1) := by decide +kernel
theorem dX12_told_87 : decode cX12_told 87 = .ok (.getfield 34, 3) := by decide +kernel
theorem dX12_told_90 : decode cX12_told 90 = .ok (.bipush 8, 2) := by decide +kernel
theorem dX12_told_92 : decode cX12_told 92 = .ok (.iload_n 1, 1) := by decide +kernel
theorem dX12_told_93 : decode cX12_told 93 = .ok (.imul, 1) := by decide +kernel
theorem dX12_told_94 : decode cX12_told 94 = .ok (.iload_n 2, 1) := by decide +kernel
theorem dX12_told_95 : decode cX12_told 95 = .ok (.iadd, 1) := by decide +kernel
theorem dX12_told_96 : decode cX12_told 96 = .ok (.iaload, 1) := by decide +kernel
theorem dX12_told_97 : decode cX12_told 97 = .ok (.ireturn, 1) := by decide +kernel
theorem dX12_told_98 : decode cX12_told 98 = .ok (.aload_n 0, 1) := by decide +kernel
theorem dX12_told_99 : decode cX12_told 99 = .ok (.iload_n 1, 1) := by decide +kernel
theorem dX12_told_100 : decode cX12_told 100 = .ok (.iload_n 2, 1) := by decide +kernel
theorem dX12_told_101 : decode cX12_told 101 = .ok (.invokevirtual 188, 3) := by decide +kernel
theorem dX12_told_104 : decode cX12_told 104 = .ok (.ireturn, 1) := by decide +kernel
theorem dX12_told_105 : decode cX12_told 105 = .ok (.aload_n 0, 1) := by decide +kernel
theorem dX12_told_106 : decode cX12_told 106 = .ok (.iload_n 1, 1) := by decide +kernel
theorem dX12_told_107 : decode cX12_told 107 = .ok (.iload_n 2, 1) := by decide +kernel
theorem dX12_told_108 : decode cX12_told 108 = .ok (.invokevirtual 191, 3) := by decide +kernel
theorem dX12_told_111 : decode cX12_told 111 = .ok (.ireturn, 1) := by decide +kernel
theorem dX12_told_112 : decode cX12_told 112 = .ok (.aload_n 0, 1) := by decide +kernel
theorem dX12_told_113 : decode cX12_told 113 = .ok (.iload_n 1, 1) := by decide +kernel
theorem dX12_told_114 : decode cX12_told 114 = .ok (.invokevirtual 194, 3) := by decide +kernel
theorem dX12_told_117 : decode cX12_told 117 = .ok (.ifCond .eq 7, 3) := by decide +kernel
theorem dX12_told_120 : decode cX12_told 120 = .ok (.iconst 1, 1) := by decide +kernel
theorem dX12_told_121 : decode cX12_told 121 = .ok (.goto 4, 3) := by decide +kernel
theorem dX12_told_124 : decode cX12_told 124 = .ok (.iconst 0, 1) := by decide +kernel
theorem dX12_told_125 : decode cX12_told 125 = .ok (.ireturn, 1) := by decide +kernel
theorem dX12_told_126 : decode cX12_told 126 = .ok (.bipush (-7), 2) := by decide +kernel
theorem dX12_told_128 : decode cX12_told 128 = .ok (.ireturn, 1) := by decide +kernel
theorem dX12_point_0 : decode cX12_point 0 = .ok (.iload_n 1, 1) := by decide +kernel
theorem dX12_point_1 : decode cX12_point 1 = .ok (.iconst 0, 1) := by decide +kernel
theorem dX12_point_2 : decode cX12_point 2 = .ok (.bipush 20, 2) := by decide +kernel
theorem dX12_point_4 : decode cX12_point 4 = .ok (.invokestatic 159, 3) := by decide +kernel
theorem dX12_point_7 : decode cX12_point 7 = .ok (.ifCond .eq 23, 3) := by decide +kernel
theorem dX12_point_10 : decode cX12_point 10 = .ok (.iload_n 2, 1) := by decide +kernel
theorem dX12_point_11 : decode cX12_point 11 = .ok (.iconst 0, 1) := by decide +kernel
theorem dX12_point_12 : decode cX12_point 12 = .ok (.bipush 60, 2) := by decide +kernel
theorem dX12_point_14 : decode cX12_point 14 = .ok (.invokestatic 159, 3) := by decide +kernel
theorem dX12_point_17 : decode cX12_point 17 = .ok (.ifCond .eq 13, 3) := by decide +kernel
theorem dX12_point_20 : decode cX12_point 20 = .ok (.iload_n 3, 1) := by decide +kernel
theorem dX12_point_21 : decode cX12_point 21 = .ok (.iconst 0, 1) := by decide +kernel
theorem dX12_point_22 : decode cX12_point 22 = .ok (.bipush 99, 2) := by decide +kernel
theorem dX12_point_24 : decode cX12_point 24 = .ok (.invokestatic 159, 3) := by decide +kernel
theorem dX12_point_27 : decode cX12_point 27 = .ok (.ifCond .ne 6, 3) := by decide +kernel
theorem dX12_point_30 : decode cX12_point 30 = .ok (.bipush (-2), 2) := by decide +kernel
theorem dX12_point_32 : decode cX12_point 32 = .ok (.ireturn, 1) := by decide +kernel
theorem dX12_point_33 : decode cX12_point 33 = .ok (.aload_n 0, 1) := by decide +kernel
theorem dX12_point_34 : decode cX12_point 34 = .ok (.getfield 197, 3) := by decide +kernel
theorem dX12_point_37 : decode cX12_point 37 = .ok (.bipush 6, 2) := by decide +kernel
theorem dX12_point_39 : decode cX12_point 39 = .ok (.if_icmp .ne 6, 3) := by decide +kernel
theorem dX12_point_42 : decode cX12_point 42 = .ok (.bipush (-4), 2) := by decide +kernel
theorem dX12_point_44 : decode cX12_point 44 = .ok (.ireturn, 1) := by decide +kernel
theorem dX12_point_45 : decode cX12_point 45 = .ok (.aload_n 0, 1) := by decide +kernel
theorem dX12_point_46 : decode cX12_point 46 = .ok (.getfield 37, 3) := by decide +kernel
theorem dX12_point_49 : decode cX12_point 49 = .ok (.aload_n 0, 1) := by decide +kernel
theorem dX12_point_50 : decode cX12_point 50 = .ok (.getfield 197, 3) := by decide +kernel
theorem dX12_point_53 : decode cX12_point 53 = .ok (.iload_n 1, 1) := by decide +kernel
theorem dX12_point_54 : decode cX12_point 54 = .ok (.iastore, 1) := by decide +kernel
theorem dX12_point_55 : decode cX12_point 55 = .ok (.aload_n 0, 1) := by decide +kernel
theorem dX12_point_56 : decode cX12_point 56 = .ok (.getfield 40, 3) := by decide +kernel
theorem dX12_point_59 : decode cX12_point 59 = .ok (.aload_n 0, 1) := by decide +kernel
theorem dX12_point_60 : decode cX12_point 60 = .ok (.getfield 197, 3) := by decide +kernel
theorem dX12_point_63 : decode cX12_point 63 = .ok (.iload_n 2, 1) := by decide +kernel
theorem dX12_point_64 : decode cX12_point 64 = .ok (.iastore, 1) := by decide +kernel
theorem dX12_point_65 : decode cX12_point 65 = .ok (.aload_n 0, 1) := by decide +kernel
theorem dX12_point_66 : decode cX12_point 66 = .ok (.getfield 43, 3) := by decide +kernel
theorem dX12_point_69 : decode cX12_point 69 = .ok (.aload_n 0, 1) := by decide +kernel
theorem dX12_point_70 : decode cX12_point 70 = .ok (.getfield 197, 3) := by decide +kernel
theorem dX12_point_73 : decode cX12_point 73 = .ok (.iload_n 3, 1) := by decide +kernel
theorem dX12_point_74 : decode cX12_point 74 = .ok (.iastore, 1) := by decide +kernel
theorem dX12_point_75 : decode cX12_point 75 = .ok (.aload_n 0, 1) := by decide +kernel
theorem dX12_point_76 : decode cX12_point 76 = .ok (.dup, 1) := by decide +kernel
theorem dX12_point_77 : decode cX12_point 77 = .ok (.getfield 197, 3) := by decide +kernel
theorem dX12_point_80 : decode cX12_point 80 = .ok (.iconst 1, 1) := by decide +kernel
theorem dX12_point_81 : decode cX12_point 81 = .ok (.iadd, 1) := by decide +kernel
theorem dX12_point_82 : decode cX12_point 82 = .ok (.putfield 197, 3) := by decide +kernel
theorem dX12_point_85 : decode cX12_point 85 = .ok (.aload_n 0, 1) := by decide +kernel
theorem dX12_point_86 : decode cX12_point 86 = .ok (.getfield 197, 3) := by decide +kernel
theorem dX12_point_89 : decode cX12_point 89 = .ok (.iconst 1, 1) := by decide +kernel
theorem dX12_point_90 : decode cX12_point 90 = .ok (.isub, 1) := by decide +kernel
theorem dX12_point_91 : decode cX12_point 91 = .ok (.ireturn, 1) := by decide +kernel
theorem dX12_post_0 : decode cX12_post 0 = .ok (.iload_n 1, 1) := by decide +kernel
theorem dX12_post_1 : decode cX12_post 1 = .ok (.iconst 0, 1) := by decide +kernel
theorem dX12_post_2 : decode cX12_post 2 = .ok (.bipush 20, 2) := by decide +kernel
theorem dX12_post_4 : decode cX12_post 4 = .ok (.invokestatic 159, 3) := by decide +kernel
theorem dX12_post_7 : decode cX12_post 7 = .ok (.ifCond .eq 13, 3) := by decide +kernel
theorem dX12_post_10 : decode cX12_post 10 = .ok (.iload_n 2, 1) := by decide +kernel
theorem dX12_post_11 : decode cX12_post 11 = .ok (.iconst 1, 1) := by decide +kernel
theorem dX12_post_12 : decode cX12_post 12 = .ok (.bipush 69, 2) := by decide +kernel
theorem dX12_post_14 : decode cX12_post 14 = .ok (.invokestatic 159, 3) := by decide +kernel
theorem dX12_post_17 : decode cX12_post 17 = .ok (.ifCond .ne 6, 3) := by decide +kernel
theorem dX12_post_20 : decode cX12_post 20 = .ok (.bipush (-2), 2) := by decide +kernel
theorem dX12_post_22 : decode cX12_post 22 = .ok (.ireturn, 1) := by decide +kernel
theorem dX12_post_23 : decode cX12_post 23 = .ok (.aload_n 0, 1) := by decide +kernel
theorem dX12_post_24 : decode cX12_post 24 = .ok (.getfield 200, 3) := by decide +kernel
theorem dX12_post_27 : decode cX12_post 27 = .ok (.iconst 4, 1) := by decide +kernel
theorem dX12_post_28 : decode cX12_post 28 = .ok (.if_icmp .ne 6, 3) := by decide +kernel
theorem dX12_post_31 : decode cX12_post 31 = .ok (.bipush (-4), 2) := by decide +kernel
theorem dX12_post_33 : decode cX12_post 33 = .ok (.ireturn, 1) := by decide +kernel
theorem dX12_post_34 : decode cX12_post 34 = .ok (.aload_n 0, 1) := by decide +kernel
theorem dX12_post_35 : decode cX12_post 35 = .ok (.getfield 46, 3) := by decide +kernel
theorem dX12_post_38 : decode cX12_post 38 = .ok (.aload_n 0, 1) := by decide +kernel
theorem dX12_post_39 : decode cX12_post 39 = .ok (.getfield 200, 3) := by decide +kernel
theorem dX12_post_42 : decode cX12_post 42 = .ok (.iload_n 1, 1) := by decide +kernel
theorem dX12_post_43 : decode cX12_post 43 = .ok (.iastore, 1) := by decide +kernel
theorem dX12_post_44 : decode cX12_post 44 = .ok (.aload_n 0, 1) := by decide +kernel
theorem dX12_post_45 : decode cX12_post 45 = .ok (.getfield 49, 3) := by decide +kernel
theorem dX12_post_48 : decode cX12_post 48 = .ok (.aload_n 0, 1) := by decide +kernel
theorem dX12_post_49 : decode cX12_post 49 = .ok (.getfield 200, 3) := by decide +kernel
theorem dX12_post_52 : decode cX12_post 52 = .ok (.iload_n 2, 1) := by decide +kernel
theorem dX12_post_53 : decode cX12_post 53 = .ok (.iastore, 1) := by decide +kernel
theorem dX12_post_54 : decode cX12_post 54 = .ok (.aload_n 0, 1) := by decide +kernel
theorem dX12_post_55 : decode cX12_post 55 = .ok (.dup, 1) := by decide +kernel
theorem dX12_post_56 : decode cX12_post 56 = .ok (.getfield 200, 3) := by decide +kernel
theorem dX12_post_59 : decode cX12_post 59 = .ok (.iconst 1, 1) := by decide +kernel
theorem dX12_post_60 : decode cX12_post 60 = .ok (.iadd, 1) := by decide +kernel
theorem dX12_post_61 : decode cX12_post 61 = .ok (.putfield 200, 3) := by decide +kernel
theorem dX12_post_64 : decode cX12_post 64 = .ok (.aload_n 0, 1) := by decide +kernel
theorem dX12_post_65 : decode cX12_post 65 = .ok (.getfield 200, 3) := by decide +kernel
theorem dX12_post_68 : decode cX12_post 68 = .ok (.iconst 1, 1) := by decide +kernel
theorem dX12_post_69 : decode cX12_post 69 = .ok (.isub, 1) := by decide +kernel
theorem dX12_post_70 : decode cX12_post 70 = .ok (.ireturn, 1) := by decide +kernel
theorem dX12_moves_0 : decode cX12_moves 0 = .ok (.iload_n 1, 1) := by decide +kernel
theorem dX12_moves_1 : decode cX12_moves 1 = .ok (.iconst 0, 1) := by decide +kernel
theorem dX12_moves_2 : decode cX12_moves 2 = .ok (.aload_n 0, 1) := by decide +kernel
theorem dX12_moves_3 : decode cX12_moves 3 = .ok (.getfield 200, 3) := by decide +kernel
theorem dX12_moves_6 : decode cX12_moves 6 = .ok (.iconst 1, 1) := by decide +kernel
theorem dX12_moves_7 : decode cX12_moves 7 = .ok (.isub, 1) := by decide +kernel
theorem dX12_moves_8 : decode cX12_moves 8 = .ok (.invokestatic 159, 3) := by decide +kernel
theorem dX12_moves_11 : decode cX12_moves 11 = .ok (.ifCond .ne 5, 3) := by decide +kernel
theorem dX12_moves_14 : decode cX12_moves 14 = .ok (.iconst (-1), 1) := by decide +kernel
theorem dX12_moves_15 : decode cX12_moves 15 = .ok (.ireturn, 1) := by decide +kernel
theorem dX12_moves_16 : decode cX12_moves 16 = .ok (.iload_n 2, 1) := by decide +kernel
theorem dX12_moves_17 : decode cX12_moves 17 = .ok (.iconst 0, 1) := by decide +kernel
theorem dX12_moves_18 : decode cX12_moves 18 = .ok (.bipush 20, 2) := by decide +kernel
theorem dX12_moves_20 : decode cX12_moves 20 = .ok (.invokestatic 159, 3) := by decide +kernel
theorem dX12_moves_23 : decode cX12_moves 23 = .ok (.ifCond .eq 13, 3) := by decide +kernel
theorem dX12_moves_26 : decode cX12_moves 26 = .ok (.iload_n 3, 1) := by decide +kernel
theorem dX12_moves_27 : decode cX12_moves 27 = .ok (.iconst 1, 1) := by decide +kernel
theorem dX12_moves_28 : decode cX12_moves 28 = .ok (.bipush 69, 2) := by decide +kernel
theorem dX12_moves_30 : decode cX12_moves 30 = .ok (.invokestatic 159, 3) := by decide +kernel
theorem dX12_moves_33 : decode cX12_moves 33 = .ok (.ifCond .ne 6, 3) := by decide +kernel
theorem dX12_moves_36 : decode cX12_moves 36 = .ok (.bipush (-2), 2) := by decide +kernel
theorem dX12_moves_38 : decode cX12_moves 38 = .ok (.ireturn, 1) := by decide +kernel
theorem dX12_moves_39 : decode cX12_moves 39 = .ok (.bipush 100, 2) := by decide +kernel
theorem dX12_moves_41 : decode cX12_moves 41 = .ok (.aload_n 0, 1) := by decide +kernel
theorem dX12_moves_42 : decode cX12_moves 42 = .ok (.getfield 46, 3) := by decide +kernel
theorem dX12_moves_45 : decode cX12_moves 45 = .ok (.iload_n 1, 1) := by decide +kernel
theorem dX12_moves_46 : decode cX12_moves 46 = .ok (.iaload, 1) := by decide +kernel
theorem dX12_moves_47 : decode cX12_moves 47 = .ok (.imul, 1) := by decide +kernel
theorem dX12_moves_48 : decode cX12_moves 48 = .ok (.aload_n 0, 1) := by decide +kernel
theorem dX12_moves_49 : decode cX12_moves 49 = .ok (.getfield 49, 3) := by decide +kernel
theorem dX12_moves_52 : decode cX12_moves 52 = .ok (.iload_n 1, 1) := by decide +kernel
theorem dX12_moves_53 : decode cX12_moves 53 = .ok (.iaload, 1) := by decide +kernel
theorem dX12_moves_54 : decode cX12_moves 54 = .ok (.iadd, 1) := by decide +kernel
theorem dX12_moves_55 : decode cX12_moves 55 = .ok (.istore 4, 2) := by decide +kernel
theorem dX12_moves_57 : decode cX12_moves 57 = .ok (.aload_n 0, 1) := by decide +kernel
theorem dX12_moves_58 : decode cX12_moves 58 = .ok (.getfield 46, 3) := by decide +kernel
theorem dX12_moves_61 : decode cX12_moves 61 = .ok (.iload_n 1, 1) := by decide +kernel
theorem dX12_moves_62 : decode cX12_moves 62 = .ok (.iload_n 2, 1) := by decide +kernel
theorem dX12_moves_63 : decode cX12_moves 63 = .ok (.iastore, 1) := by decide +kernel
theorem dX12_moves_64 : decode cX12_moves 64 = .ok (.aload_n 0, 1) := by decide +kernel
theorem dX12_moves_65 : decode cX12_moves 65 = .ok (.getfield 49, 3) := by decide +kernel
theorem dX12_moves_68 : decode cX12_moves 68 = .ok (.iload_n 1, 1) := by decide +kernel
theorem dX12_moves_69 : decode cX12_moves 69 = .ok (.iload_n 3, 1) := by decide +kernel
theorem dX12_moves_70 : decode cX12_moves 70 = .ok (.iastore, 1) := by decide +kernel
theorem dX12_moves_71 : decode cX12_moves 71 = .ok (.iload 4, 2) := by decide +kernel
theorem dX12_moves_73 : decode cX12_moves 73 = .ok (.ireturn, 1) := by decide +kernel
theorem dX12_count_0 : decode cX12_count 0 = .ok (.iload_n 1, 1) := by decide +kernel
theorem dX12_count_1 : decode cX12_count 1 = .ok (.tableswitch 69 0 5 #[39, 44, 49, 54, 59, 64], 39) := by decide +kernel
theorem dX12_count_40 : decode cX12_count 40 = .ok (.aload_n 0, 1) := by decide +kernel
theorem dX12_count_41 : decode cX12_count 41 = .ok (.getfield 156, 3) := by decide +kernel
theorem dX12_count_44 : decode cX12_count 44 = .ok (.ireturn, 1) := by decide +kernel
theorem dX12_count_45 : decode cX12_count 45 = .ok (.aload_n 0, 1) := by decide +kernel
theorem dX12_count_46 : decode cX12_count 46 = .ok (.getfield 197, 3) := by decide +kernel
theorem dX12_count_49 : decode cX12_count 49 = .ok (.ireturn, 1) := by decide +kernel
theorem dX12_count_50 : decode cX12_count 50 = .ok (.aload_n 0, 1) := by decide +kernel
theorem dX12_count_51 : decode cX12_count 51 = .ok (.getfield 200, 3) := by decide +kernel
theorem dX12_count_54 : decode cX12_count 54 = .ok (.ireturn, 1) := by decide +kernel
theorem dX12_count_55 : decode cX12_count 55 = .ok (.aload_n 0, 1) := by decide +kernel
theorem dX12_count_56 : decode cX12_count 56 = .ok (.getfield 61, 3) := by decide +kernel
theorem dX12_count_59 : decode cX12_count 59 = .ok (.ireturn, 1) := by decide +kernel
theorem dX12_count_60 : decode cX12_count 60 = .ok (.aload_n 0, 1) := by decide +kernel
theorem dX12_count_61 : decode cX12_count 61 = .ok (.getfield 203, 3) := by decide +kernel
theorem dX12_count_64 : decode cX12_count 64 = .ok (.ireturn, 1) := by decide +kernel
theorem dX12_count_65 : decode cX12_count 65 = .ok (.aload_n 0, 1) := by decide +kernel
theorem dX12_count_66 : decode cX12_count 66 = .ok (.getfield 206, 3) := by decide +kernel
theorem dX12_count_69 : decode cX12_count 69 = .ok (.ireturn, 1) := by decide +kernel
theorem dX12_count_70 : decode cX12_count 70 = .ok (.bipush (-2), 2) := by decide +kernel
theorem dX12_count_72 : decode cX12_count 72 = .ok (.ireturn, 1) := by decide +kernel
theorem dX12_feed_0 : decode cX12_feed 0 = .ok (.iload_n 3, 1) := by decide +kernel
theorem dX12_feed_1 : decode cX12_feed 1 = .ok (.iconst 1, 1) := by decide +kernel
theorem dX12_feed_2 : decode cX12_feed 2 = .ok (.bipush 8, 2) := by decide +kernel
theorem dX12_feed_4 : decode cX12_feed 4 = .ok (.invokestatic 159, 3) := by decide +kernel
theorem dX12_feed_7 : decode cX12_feed 7 = .ok (.ifCond .ne 6, 3) := by decide +kernel
theorem dX12_feed_10 : decode cX12_feed 10 = .ok (.bipush (-2), 2) := by decide +kernel
theorem dX12_feed_12 : decode cX12_feed 12 = .ok (.ireturn, 1) := by decide +kernel
theorem dX12_feed_13 : decode cX12_feed 13 = .ok (.aload_n 0, 1) := by decide +kernel
theorem dX12_feed_14 : decode cX12_feed 14 = .ok (.getfield 206, 3) := by decide +kernel
theorem dX12_feed_17 : decode cX12_feed 17 = .ok (.iload_n 3, 1) := by decide +kernel
theorem dX12_feed_18 : decode cX12_feed 18 = .ok (.iadd, 1) := by decide +kernel
theorem dX12_feed_19 : decode cX12_feed 19 = .ok (.sipush 160, 3) := by decide +kernel
theorem dX12_feed_22 : decode cX12_feed 22 = .ok (.if_icmp .le 6, 3) := by decide +kernel
theorem dX12_feed_25 : decode cX12_feed 25 = .ok (.bipush (-4), 2) := by decide +kernel
theorem dX12_feed_27 : decode cX12_feed 27 = .ok (.ireturn, 1) := by decide +kernel
theorem dX12_feed_28 : decode cX12_feed 28 = .ok (.iload_n 3, 1) := by decide +kernel
theorem dX12_feed_29 : decode cX12_feed 29 = .ok (.iconst 1, 1) := by decide +kernel
theorem dX12_feed_30 : decode cX12_feed 30 = .ok (.isub, 1) := by decide +kernel
theorem dX12_feed_31 : decode cX12_feed 31 = .ok (.istore 4, 2) := by decide +kernel
theorem dX12_feed_33 : decode cX12_feed 33 = .ok (.iload 4, 2) := by decide +kernel
theorem dX12_feed_35 : decode cX12_feed 35 = .ok (.ifCond .lt 40, 3) := by decide +kernel
theorem dX12_feed_38 : decode cX12_feed 38 = .ok (.aload_n 0, 1) := by decide +kernel
theorem dX12_feed_39 : decode cX12_feed 39 = .ok (.getfield 52, 3) := by decide +kernel
theorem dX12_feed_42 : decode cX12_feed 42 = .ok (.aload_n 0, 1) := by decide +kernel
theorem dX12_feed_43 : decode cX12_feed 43 = .ok (.getfield 206, 3) := by decide +kernel
theorem dX12_feed_46 : decode cX12_feed 46 = .ok (.lload_n 1, 1) := by decide +kernel
theorem dX12_feed_47 : decode cX12_feed 47 = .ok (.bipush 8, 2) := by decide +kernel
theorem dX12_feed_49 : decode cX12_feed 49 = .ok (.iload 4, 2) := by decide +kernel
theorem dX12_feed_51 : decode cX12_feed 51 = .ok (.imul, 1) := by decide +kernel
theorem dX12_feed_52 : decode cX12_feed 52 = .ok (.lshr, 1) := by decide +kernel
theorem dX12_feed_53 : decode cX12_feed 53 = .ok (.ldc2_w 209, 3) := by decide +kernel
theorem dX12_feed_56 : decode cX12_feed 56 = .ok (.land, 1) := by decide +kernel
theorem dX12_feed_57 : decode cX12_feed 57 = .ok (.l2i, 1) := by decide +kernel
theorem dX12_feed_58 : decode cX12_feed 58 = .ok (.iastore, 1) := by decide +kernel
theorem dX12_feed_59 : decode cX12_feed 59 = .ok (.aload_n 0, 1) := by decide +kernel
theorem dX12_feed_60 : decode cX12_feed 60 = .ok (.dup, 1) := by decide +kernel
theorem dX12_feed_61 : decode cX12_feed 61 = .ok (.getfield 206, 3) := by decide +kernel
theorem dX12_feed_64 : decode cX12_feed 64 = .ok (.iconst 1, 1) := by decide +kernel
theorem dX12_feed_65 : decode cX12_feed 65 = .ok (.iadd, 1) := by decide +kernel
theorem dX12_feed_66 : decode cX12_feed 66 = .ok (.putfield 206, 3) := by decide +kernel
theorem dX12_feed_69 : decode cX12_feed 69 = .ok (.iinc 4 (-1), 3) := by decide +kernel
theorem dX12_feed_72 : decode cX12_feed 72 = .ok (.goto (-39), 3) := by decide +kernel
theorem dX12_feed_75 : decode cX12_feed 75 = .ok (.aload_n 0, 1) := by decide +kernel
theorem dX12_feed_76 : decode cX12_feed 76 = .ok (.getfield 206, 3) := by decide +kernel
theorem dX12_feed_79 : decode cX12_feed 79 = .ok (.ireturn, 1) := by decide +kernel
theorem dX12_letters_0 : decode cX12_letters 0 = .ok (.lconst 0, 1) := by decide +kernel
theorem dX12_letters_1 : decode cX12_letters 1 = .ok (.lstore_n 1, 1) := by decide +kernel
theorem dX12_letters_2 : decode cX12_letters 2 = .ok (.iconst 0, 1) := by decide +kernel
theorem dX12_letters_3 : decode cX12_letters 3 = .ok (.istore_n 3, 1) := by decide +kernel
theorem dX12_letters_4 : decode cX12_letters 4 = .ok (.aload_n 0, 1) := by decide +kernel
theorem dX12_letters_5 : decode cX12_letters 5 = .ok (.getfield 211, 3) := by decide +kernel
theorem dX12_letters_8 : decode cX12_letters 8 = .ok (.aload_n 0, 1) := by decide +kernel
theorem dX12_letters_9 : decode cX12_letters 9 = .ok (.getfield 206, 3) := by decide +kernel
theorem dX12_letters_12 : decode cX12_letters 12 = .ok (.if_icmp .ge 64, 3) := by decide +kernel
theorem dX12_letters_15 : decode cX12_letters 15 = .ok (.aload_n 0, 1) := by decide +kernel
theorem dX12_letters_16 : decode cX12_letters 16 = .ok (.getfield 52, 3) := by decide +kernel
theorem dX12_letters_19 : decode cX12_letters 19 = .ok (.aload_n 0, 1) := by decide +kernel
theorem dX12_letters_20 : decode cX12_letters 20 = .ok (.getfield 211, 3) := by decide +kernel
theorem dX12_letters_23 : decode cX12_letters 23 = .ok (.iaload, 1) := by decide +kernel
theorem dX12_letters_24 : decode cX12_letters 24 = .ok (.bipush 97, 2) := by decide +kernel
theorem dX12_letters_26 : decode cX12_letters 26 = .ok (.bipush 122, 2) := by decide +kernel
theorem dX12_letters_28 : decode cX12_letters 28 = .ok (.invokestatic 159, 3) := by decide +kernel
theorem dX12_letters_31 : decode cX12_letters 31 = .ok (.ifCond .eq 45, 3) := by decide +kernel
theorem dX12_letters_34 : decode cX12_letters 34 = .ok (.iload_n 3, 1) := by decide +kernel
theorem dX12_letters_35 : decode cX12_letters 35 = .ok (.bipush 8, 2) := by decide +kernel
theorem dX12_letters_37 : decode cX12_letters 37 = .ok (.if_icmp .ge 21, 3) := by decide +kernel
theorem dX12_letters_40 : decode cX12_letters 40 = .ok (.lload_n 1, 1) := by decide +kernel
theorem dX12_letters_41 : decode cX12_letters 41 = .ok (.bipush 8, 2) := by decide +kernel
theorem dX12_letters_43 : decode cX12_letters 43 = .ok (.lshl, 1) := by decide +kernel
theorem dX12_letters_44 : decode cX12_letters 44 = .ok (.aload_n 0, 1) := by decide +kernel
theorem dX12_letters_45 : decode cX12_letters 45 = .ok (.getfield 52, 3) := by decide +kernel
theorem dX12_letters_48 : decode cX12_letters 48 = .ok (.aload_n 0, 1) := by decide +kernel
theorem dX12_letters_49 : decode cX12_letters 49 = .ok (.getfield 211, 3) := by decide +kernel
theorem dX12_letters_52 : decode cX12_letters 52 = .ok (.iaload, 1) := by decide +kernel
theorem dX12_letters_53 : decode cX12_letters 53 = .ok (.i2l, 1) := by decide +kernel
theorem dX12_letters_54 : decode cX12_letters 54 = .ok (.lor, 1) := by decide +kernel
theorem dX12_letters_55 : decode cX12_letters 55 = .ok (.goto 4, 3) := by decide +kernel
theorem dX12_letters_58 : decode cX12_letters 58 = .ok (.lload_n 1, 1) := by decide +kernel
theorem dX12_letters_59 : decode cX12_letters 59 = .ok (.lstore_n 1, 1) := by decide +kernel
theorem dX12_letters_60 : decode cX12_letters 60 = .ok (.iinc 3 1, 3) := by decide +kernel
theorem dX12_letters_63 : decode cX12_letters 63 = .ok (.aload_n 0, 1) := by decide +kernel
theorem dX12_letters_64 : decode cX12_letters 64 = .ok (.dup, 1) := by decide +kernel
theorem dX12_letters_65 : decode cX12_letters 65 = .ok (.getfield 211, 3) := by decide +kernel
theorem dX12_letters_68 : decode cX12_letters 68 = .ok (.iconst 1, 1) := by decide +kernel
theorem dX12_letters_69 : decode cX12_letters 69 = .ok (.iadd, 1) := by decide +kernel
theorem dX12_letters_70 : decode cX12_letters 70 = .ok (.putfield 211, 3) := by decide +kernel
theorem dX12_letters_73 : decode cX12_letters 73 = .ok (.goto (-69), 3) := by decide +kernel
theorem dX12_letters_76 : decode cX12_letters 76 = .ok (.iload_n 3, 1) := by decide +kernel
theorem dX12_letters_77 : decode cX12_letters 77 = .ok (.iconst 5, 1) := by decide +kernel
theorem dX12_letters_78 : decode cX12_letters 78 = .ok (.if_icmp .le 7, 3) := by decide +kernel
theorem dX12_letters_81 : decode cX12_letters 81 = .ok (.lconst 0, 1) := by decide +kernel
theorem dX12_letters_82 : decode cX12_letters 82 = .ok (.goto 4, 3) := by decide +kernel
theorem dX12_letters_85 : decode cX12_letters 85 = .ok (.lload_n 1, 1) := by decide +kernel
theorem dX12_letters_86 : decode cX12_letters 86 = .ok (.lreturn, 1) := by decide +kernel
theorem dX12_next_0 : decode cX12_next 0 = .ok (.aload_n 0, 1) := by decide +kernel
theorem dX12_next_1 : decode cX12_next 1 = .ok (.getfield 211, 3) := by decide +kernel
theorem dX12_next_4 : decode cX12_next 4 = .ok (.aload_n 0, 1) := by decide +kernel
theorem dX12_next_5 : decode cX12_next 5 = .ok (.getfield 206, 3) := by decide +kernel
theorem dX12_next_8 : decode cX12_next 8 = .ok (.if_icmp .ge 44, 3) := by decide +kernel
theorem dX12_next_11 : decode cX12_next 11 = .ok (.aload_n 0, 1) := by decide +kernel
theorem dX12_next_12 : decode cX12_next 12 = .ok (.getfield 52, 3) := by decide +kernel
theorem dX12_next_15 : decode cX12_next 15 = .ok (.aload_n 0, 1) := by decide +kernel
theorem dX12_next_16 : decode cX12_next 16 = .ok (.getfield 211, 3) := by decide +kernel
theorem dX12_next_19 : decode cX12_next 19 = .ok (.iaload, 1) := by decide +kernel
theorem dX12_next_20 : decode cX12_next 20 = .ok (.bipush 32, 2) := by decide +kernel
theorem dX12_next_22 : decode cX12_next 22 = .ok (.if_icmp .eq 17, 3) := by decide +kernel
theorem dX12_next_25 : decode cX12_next 25 = .ok (.aload_n 0, 1) := by decide +kernel
theorem dX12_next_26 : decode cX12_next 26 = .ok (.getfield 52, 3) := by decide +kernel
theorem dX12_next_29 : decode cX12_next 29 = .ok (.aload_n 0, 1) := by decide +kernel
theorem dX12_next_30 : decode cX12_next 30 = .ok (.getfield 211, 3) := by decide +kernel
theorem dX12_next_33 : decode cX12_next 33 = .ok (.iaload, 1) := by decide +kernel
theorem dX12_next_34 : decode cX12_next 34 = .ok (.bipush 10, 2) := by decide +kernel
theorem dX12_next_36 : decode cX12_next 36 = .ok (.if_icmp .ne 16, 3) := by decide +kernel
theorem dX12_next_39 : decode cX12_next 39 = .ok (.aload_n 0, 1) := by decide +kernel
theorem dX12_next_40 : decode cX12_next 40 = .ok (.dup, 1) := by decide +kernel
theorem dX12_next_41 : decode cX12_next 41 = .ok (.getfield 211, 3) := by decide +kernel
theorem dX12_next_44 : decode cX12_next 44 = .ok (.iconst 1, 1) := by decide +kernel
theorem dX12_next_45 : decode cX12_next 45 = .ok (.iadd, 1) := by decide +kernel
theorem dX12_next_46 : decode cX12_next 46 = .ok (.putfield 211, 3) := by decide +kernel
theorem dX12_next_49 : decode cX12_next 49 = .ok (.goto (-49), 3) := by decide +kernel
theorem dX12_next_52 : decode cX12_next 52 = .ok (.aload_n 0, 1) := by decide +kernel
theorem dX12_next_53 : decode cX12_next 53 = .ok (.aload_n 0, 1) := by decide +kernel
theorem dX12_next_54 : decode cX12_next 54 = .ok (.getfield 211, 3) := by decide +kernel
theorem dX12_next_57 : decode cX12_next 57 = .ok (.putfield 214, 3) := by decide +kernel
theorem dX12_next_60 : decode cX12_next 60 = .ok (.aload_n 0, 1) := by decide +kernel
theorem dX12_next_61 : decode cX12_next 61 = .ok (.iconst 0, 1) := by decide +kernel
theorem dX12_next_62 : decode cX12_next 62 = .ok (.putfield 217, 3) := by decide +kernel
theorem dX12_next_65 : decode cX12_next 65 = .ok (.aload_n 0, 1) := by decide +kernel
theorem dX12_next_66 : decode cX12_next 66 = .ok (.iconst 0, 1) := by decide +kernel
theorem dX12_next_67 : decode cX12_next 67 = .ok (.putfield 220, 3) := by decide +kernel
theorem dX12_next_70 : decode cX12_next 70 = .ok (.aload_n 0, 1) := by decide +kernel
theorem dX12_next_71 : decode cX12_next 71 = .ok (.getfield 211, 3) := by decide +kernel
theorem dX12_next_74 : decode cX12_next 74 = .ok (.aload_n 0, 1) := by decide +kernel
theorem dX12_next_75 : decode cX12_next 75 = .ok (.getfield 206, 3) := by decide +kernel
theorem dX12_next_78 : decode cX12_next 78 = .ok (.if_icmp .ne 4, 3) := by decide +kernel
theorem dX12_next_81 : decode cX12_next 81 = .ok (.return_, 1) := by decide +kernel
theorem dX12_next_82 : decode cX12_next 82 = .ok (.aload_n 0, 1) := by decide +kernel
theorem dX12_next_83 : decode cX12_next 83 = .ok (.getfield 52, 3) := by decide +kernel
theorem dX12_next_86 : decode cX12_next 86 = .ok (.aload_n 0, 1) := by decide +kernel
theorem dX12_next_87 : decode cX12_next 87 = .ok (.getfield 211, 3) := by decide +kernel
theorem dX12_next_90 : decode cX12_next 90 = .ok (.iaload, 1) := by decide +kernel
theorem dX12_next_91 : decode cX12_next 91 = .ok (.istore_n 1, 1) := by decide +kernel
theorem dX12_next_92 : decode cX12_next 92 = .ok (.iload_n 1, 1) := by decide +kernel
theorem dX12_next_93 : decode cX12_next 93 = .ok (.bipush 97, 2) := by decide +kernel
theorem dX12_next_95 : decode cX12_next 95 = .ok (.bipush 122, 2) := by decide +kernel
theorem dX12_next_97 : decode cX12_next 97 = .ok (.invokestatic 159, 3) := by decide +kernel
theorem dX12_next_100 : decode cX12_next 100 = .ok (.ifCond .eq 101, 3) := by decide +kernel
theorem dX12_next_103 : decode cX12_next 103 = .ok (.aload_n 0, 1) := by decide +kernel
theorem dX12_next_104 : decode cX12_next 104 = .ok (.invokevirtual 223, 3) := by decide +kernel
theorem dX12_next_107 : decode cX12_next 107 = .ok (.lstore_n 2, 1) := by decide +kernel
theorem dX12_next_108 : decode cX12_next 108 = .ok (.iconst 0, 1) := by decide +kernel
theorem dX12_next_109 : decode cX12_next 109 = .ok (.istore 4, 2) := by decide +kernel
theorem dX12_next_111 : decode cX12_next 111 = .ok (.iload 4, 2) := by decide +kernel
theorem dX12_next_113 : decode cX12_next 113 = .ok (.bipush 12, 2) := by decide +kernel
theorem dX12_next_115 : decode cX12_next 115 = .ok (.if_icmp .ge 21, 3) := by decide +kernel
theorem dX12_next_118 : decode cX12_next 118 = .ok (.aload_n 0, 1) := by decide +kernel
theorem dX12_next_119 : decode cX12_next 119 = .ok (.getfield 125, 3) := by decide +kernel
theorem dX12_next_122 : decode cX12_next 122 = .ok (.iload 4, 2) := by decide +kernel
theorem dX12_next_124 : decode cX12_next 124 = .ok (.laload, 1) := by decide +kernel
theorem dX12_next_125 : decode cX12_next 125 = .ok (.lload_n 2, 1) := by decide +kernel
theorem dX12_next_126 : decode cX12_next 126 = .ok (.lcmp, 1) := by decide +kernel
theorem dX12_next_127 : decode cX12_next 127 = .ok (.ifCond .eq 9, 3) := by decide +kernel
theorem dX12_next_130 : decode cX12_next 130 = .ok (.iinc 4 1, 3) := by decide +kernel
theorem dX12_next_133 : decode cX12_next 133 = .ok (.goto (-22), 3) := by decide +kernel
theorem dX12_next_136 : decode cX12_next 136 = .ok (.aload_n 0, 1) := by decide +kernel
theorem dX12_next_137 : decode cX12_next 137 = .ok (.iload 4, 2) := by decide +kernel
theorem dX12_next_139 : decode cX12_next 139 = .ok (.iconst 3, 1) := by decide +kernel
theorem dX12_next_140 : decode cX12_next 140 = .ok (.if_icmp .ge 7, 3) := by decide +kernel
theorem dX12_next_143 : decode cX12_next 143 = .ok (.iconst 3, 1) := by decide +kernel
theorem dX12_next_144 : decode cX12_next 144 = .ok (.goto 32, 3) := by decide +kernel
theorem dX12_next_147 : decode cX12_next 147 = .ok (.iload 4, 2) := by decide +kernel
theorem dX12_next_149 : decode cX12_next 149 = .ok (.bipush 9, 2) := by decide +kernel
theorem dX12_next_151 : decode cX12_next 151 = .ok (.if_icmp .ge 7, 3) := by decide +kernel
theorem dX12_next_154 : decode cX12_next 154 = .ok (.iconst 2, 1) := by decide +kernel
theorem dX12_next_155 : decode cX12_next 155 = .ok (.goto 21, 3) := by decide +kernel
theorem dX12_next_158 : decode cX12_next 158 = .ok (.iload 4, 2) := by decide +kernel
theorem dX12_next_160 : decode cX12_next 160 = .ok (.bipush 12, 2) := by decide +kernel
theorem dX12_next_162 : decode cX12_next 162 = .ok (.if_icmp .ne 7, 3) := by decide +kernel
theorem dX12_next_165 : decode cX12_next 165 = .ok (.iconst (-1), 1) := by decide +kernel
theorem dX12_next_166 : decode cX12_next 166 = .ok (.goto 10, 3) := by decide +kernel
theorem dX12_next_169 : decode cX12_next 169 = .ok (.iconst 4, 1) := by decide +kernel
theorem dX12_next_170 : decode cX12_next 170 = .ok (.iload 4, 2) := by decide +kernel
theorem dX12_next_172 : decode cX12_next 172 = .ok (.iadd, 1) := by decide +kernel
theorem dX12_next_173 : decode cX12_next 173 = .ok (.bipush 9, 2) := by decide +kernel
theorem dX12_next_175 : decode cX12_next 175 = .ok (.isub, 1) := by decide +kernel
theorem dX12_next_176 : decode cX12_next 176 = .ok (.putfield 217, 3) := by decide +kernel
theorem dX12_next_179 : decode cX12_next 179 = .ok (.aload_n 0, 1) := by decide +kernel
theorem dX12_next_180 : decode cX12_next 180 = .ok (.iload 4, 2) := by decide +kernel
theorem dX12_next_182 : decode cX12_next 182 = .ok (.iconst 3, 1) := by decide +kernel
theorem dX12_next_183 : decode cX12_next 183 = .ok (.if_icmp .ge 8, 3) := by decide +kernel
theorem dX12_next_186 : decode cX12_next 186 = .ok (.iload 4, 2) := by decide +kernel
theorem dX12_next_188 : decode cX12_next 188 = .ok (.goto 7, 3) := by decide +kernel
theorem dX12_next_191 : decode cX12_next 191 = .ok (.iload 4, 2) := by decide +kernel
theorem dX12_next_193 : decode cX12_next 193 = .ok (.iconst 3, 1) := by decide +kernel
theorem dX12_next_194 : decode cX12_next 194 = .ok (.isub, 1) := by decide +kernel
theorem dX12_next_195 : decode cX12_next 195 = .ok (.putfield 220, 3) := by decide +kernel
theorem dX12_next_198 : decode cX12_next 198 = .ok (.goto 189, 3) := by decide +kernel
theorem dX12_next_201 : decode cX12_next 201 = .ok (.iload_n 1, 1) := by decide +kernel
theorem dX12_next_202 : decode cX12_next 202 = .ok (.bipush 48, 2) := by decide +kernel
theorem dX12_next_204 : decode cX12_next 204 = .ok (.bipush 57, 2) := by decide +kernel
theorem dX12_next_206 : decode cX12_next 206 = .ok (.invokestatic 159, 3) := by decide +kernel
theorem dX12_next_209 : decode cX12_next 209 = .ok (.ifCond .eq 101, 3) := by decide +kernel
theorem dX12_next_212 : decode cX12_next 212 = .ok (.iconst 0, 1) := by decide +kernel
theorem dX12_next_213 : decode cX12_next 213 = .ok (.istore_n 2, 1) := by decide +kernel
theorem dX12_next_214 : decode cX12_next 214 = .ok (.aload_n 0, 1) := by decide +kernel
theorem dX12_next_215 : decode cX12_next 215 = .ok (.getfield 211, 3) := by decide +kernel
theorem dX12_next_218 : decode cX12_next 218 = .ok (.aload_n 0, 1) := by decide +kernel
theorem dX12_next_219 : decode cX12_next 219 = .ok (.getfield 206, 3) := by decide +kernel
theorem dX12_next_222 : decode cX12_next 222 = .ok (.if_icmp .ge 71, 3) := by decide +kernel
theorem dX12_next_225 : decode cX12_next 225 = .ok (.aload_n 0, 1) := by decide +kernel
theorem dX12_next_226 : decode cX12_next 226 = .ok (.getfield 52, 3) := by decide +kernel
theorem dX12_next_229 : decode cX12_next 229 = .ok (.aload_n 0, 1) := by decide +kernel
theorem dX12_next_230 : decode cX12_next 230 = .ok (.getfield 211, 3) := by decide +kernel
theorem dX12_next_233 : decode cX12_next 233 = .ok (.iaload, 1) := by decide +kernel
theorem dX12_next_234 : decode cX12_next 234 = .ok (.bipush 48, 2) := by decide +kernel
theorem dX12_next_236 : decode cX12_next 236 = .ok (.bipush 57, 2) := by decide +kernel
theorem dX12_next_238 : decode cX12_next 238 = .ok (.invokestatic 159, 3) := by decide +kernel
theorem dX12_next_241 : decode cX12_next 241 = .ok (.ifCond .eq 52, 3) := by decide +kernel
theorem dX12_next_244 : decode cX12_next 244 = .ok (.aload_n 0, 1) := by decide +kernel
theorem dX12_next_245 : decode cX12_next 245 = .ok (.iload_n 2, 1) := by decide +kernel
theorem dX12_next_246 : decode cX12_next 246 = .ok (.iconst 4, 1) := by decide +kernel
theorem dX12_next_247 : decode cX12_next 247 = .ok (.if_icmp .ge 26, 3) := by decide +kernel
theorem dX12_next_250 : decode cX12_next 250 = .ok (.bipush 10, 2) := by decide +kernel
theorem dX12_next_252 : decode cX12_next 252 = .ok (.aload_n 0, 1) := by decide +kernel
theorem dX12_next_253 : decode cX12_next 253 = .ok (.getfield 220, 3) := by decide +kernel
theorem dX12_next_256 : decode cX12_next 256 = .ok (.imul, 1) := by decide +kernel
theorem dX12_next_257 : decode cX12_next 257 = .ok (.aload_n 0, 1) := by decide +kernel
theorem dX12_next_258 : decode cX12_next 258 = .ok (.getfield 52, 3) := by decide +kernel
theorem dX12_next_261 : decode cX12_next 261 = .ok (.aload_n 0, 1) := by decide +kernel
theorem dX12_next_262 : decode cX12_next 262 = .ok (.getfield 211, 3) := by decide +kernel
theorem dX12_next_265 : decode cX12_next 265 = .ok (.iaload, 1) := by decide +kernel
theorem dX12_next_266 : decode cX12_next 266 = .ok (.iadd, 1) := by decide +kernel
theorem dX12_next_267 : decode cX12_next 267 = .ok (.bipush 48, 2) := by decide +kernel
theorem dX12_next_269 : decode cX12_next 269 = .ok (.isub, 1) := by decide +kernel
theorem dX12_next_270 : decode cX12_next 270 = .ok (.goto 4, 3) := by decide +kernel
theorem dX12_next_273 : decode cX12_next 273 = .ok (.iconst 0, 1) := by decide +kernel
theorem dX12_next_274 : decode cX12_next 274 = .ok (.putfield 220, 3) := by decide +kernel
theorem dX12_next_277 : decode cX12_next 277 = .ok (.iinc 2 1, 3) := by decide +kernel
theorem dX12_next_280 : decode cX12_next 280 = .ok (.aload_n 0, 1) := by decide +kernel
theorem dX12_next_281 : decode cX12_next 281 = .ok (.dup, 1) := by decide +kernel
theorem dX12_next_282 : decode cX12_next 282 = .ok (.getfield 211, 3) := by decide +kernel
theorem dX12_next_285 : decode cX12_next 285 = .ok (.iconst 1, 1) := by decide +kernel
theorem dX12_next_286 : decode cX12_next 286 = .ok (.iadd, 1) := by decide +kernel
theorem dX12_next_287 : decode cX12_next 287 = .ok (.putfield 211, 3) := by decide +kernel
theorem dX12_next_290 : decode cX12_next 290 = .ok (.goto (-76), 3) := by decide +kernel
theorem dX12_next_293 : decode cX12_next 293 = .ok (.aload_n 0, 1) := by decide +kernel
theorem dX12_next_294 : decode cX12_next 294 = .ok (.iload_n 2, 1) := by decide +kernel
theorem dX12_next_295 : decode cX12_next 295 = .ok (.iconst 4, 1) := by decide +kernel
theorem dX12_next_296 : decode cX12_next 296 = .ok (.if_icmp .le 7, 3) := by decide +kernel
theorem dX12_next_299 : decode cX12_next 299 = .ok (.iconst (-1), 1) := by decide +kernel
theorem dX12_next_300 : decode cX12_next 300 = .ok (.goto 4, 3) := by decide +kernel
theorem dX12_next_303 : decode cX12_next 303 = .ok (.iconst 1, 1) := by decide +kernel
theorem dX12_next_304 : decode cX12_next 304 = .ok (.putfield 217, 3) := by decide +kernel
theorem dX12_next_307 : decode cX12_next 307 = .ok (.goto 80, 3) := by decide +kernel
theorem dX12_next_310 : decode cX12_next 310 = .ok (.iload_n 1, 1) := by decide +kernel
theorem dX12_next_311 : decode cX12_next 311 = .ok (.bipush 40, 2) := by decide +kernel
theorem dX12_next_313 : decode cX12_next 313 = .ok (.if_icmp .eq 45, 3) := by decide +kernel
theorem dX12_next_316 : decode cX12_next 316 = .ok (.iload_n 1, 1) := by decide +kernel
theorem dX12_next_317 : decode cX12_next 317 = .ok (.bipush 41, 2) := by decide +kernel
theorem dX12_next_319 : decode cX12_next 319 = .ok (.if_icmp .eq 39, 3) := by decide +kernel
theorem dX12_next_322 : decode cX12_next 322 = .ok (.iload_n 1, 1) := by decide +kernel
theorem dX12_next_323 : decode cX12_next 323 = .ok (.bipush 59, 2) := by decide +kernel
theorem dX12_next_325 : decode cX12_next 325 = .ok (.if_icmp .eq 33, 3) := by decide +kernel
theorem dX12_next_328 : decode cX12_next 328 = .ok (.iload_n 1, 1) := by decide +kernel
theorem dX12_next_329 : decode cX12_next 329 = .ok (.bipush 43, 2) := by decide +kernel
theorem dX12_next_331 : decode cX12_next 331 = .ok (.if_icmp .eq 27, 3) := by decide +kernel
theorem dX12_next_334 : decode cX12_next 334 = .ok (.iload_n 1, 1) := by decide +kernel
theorem dX12_next_335 : decode cX12_next 335 = .ok (.bipush 45, 2) := by decide +kernel
theorem dX12_next_337 : decode cX12_next 337 = .ok (.if_icmp .eq 21, 3) := by decide +kernel
theorem dX12_next_340 : decode cX12_next 340 = .ok (.iload_n 1, 1) := by decide +kernel
theorem dX12_next_341 : decode cX12_next 341 = .ok (.bipush 42, 2) := by decide +kernel
theorem dX12_next_343 : decode cX12_next 343 = .ok (.if_icmp .eq 15, 3) := by decide +kernel
theorem dX12_next_346 : decode cX12_next 346 = .ok (.iload_n 1, 1) := by decide +kernel
theorem dX12_next_347 : decode cX12_next 347 = .ok (.bipush 60, 2) := by decide +kernel
theorem dX12_next_349 : decode cX12_next 349 = .ok (.if_icmp .eq 9, 3) := by decide +kernel
theorem dX12_next_352 : decode cX12_next 352 = .ok (.iload_n 1, 1) := by decide +kernel
theorem dX12_next_353 : decode cX12_next 353 = .ok (.bipush 61, 2) := by decide +kernel
theorem dX12_next_355 : decode cX12_next 355 = .ok (.if_icmp .ne 7, 3) := by decide +kernel
theorem dX12_next_358 : decode cX12_next 358 = .ok (.iconst 1, 1) := by decide +kernel
theorem dX12_next_359 : decode cX12_next 359 = .ok (.goto 4, 3) := by decide +kernel
theorem dX12_next_362 : decode cX12_next 362 = .ok (.iconst 0, 1) := by decide +kernel
theorem dX12_next_363 : decode cX12_next 363 = .ok (.istore_n 2, 1) := by decide +kernel
theorem dX12_next_364 : decode cX12_next 364 = .ok (.aload_n 0, 1) := by decide +kernel
theorem dX12_next_365 : decode cX12_next 365 = .ok (.iload_n 2, 1) := by decide +kernel
theorem dX12_next_366 : decode cX12_next 366 = .ok (.ifCond .eq 7, 3) := by decide +kernel
theorem dX12_next_369 : decode cX12_next 369 = .ok (.iload_n 1, 1) := by decide +kernel
theorem dX12_next_370 : decode cX12_next 370 = .ok (.goto 4, 3) := by decide +kernel
theorem dX12_next_373 : decode cX12_next 373 = .ok (.iconst (-1), 1) := by decide +kernel
theorem dX12_next_374 : decode cX12_next 374 = .ok (.putfield 217, 3) := by decide +kernel
theorem dX12_next_377 : decode cX12_next 377 = .ok (.aload_n 0, 1) := by decide +kernel
theorem dX12_next_378 : decode cX12_next 378 = .ok (.dup, 1) := by decide +kernel
theorem dX12_next_379 : decode cX12_next 379 = .ok (.getfield 211, 3) := by decide +kernel
theorem dX12_next_382 : decode cX12_next 382 = .ok (.iconst 1, 1) := by decide +kernel
theorem dX12_next_383 : decode cX12_next 383 = .ok (.iadd, 1) := by decide +kernel
theorem dX12_next_384 : decode cX12_next 384 = .ok (.putfield 211, 3) := by decide +kernel
theorem dX12_next_387 : decode cX12_next 387 = .ok (.return_, 1) := by decide +kernel
theorem dX12_rank_0 : decode cX12_rank 0 = .ok (.iload_n 0, 1) := by decide +kernel
theorem dX12_rank_1 : decode cX12_rank 1 = .ok (.ifCond .ne 7, 3) := by decide +kernel
theorem dX12_rank_4 : decode cX12_rank 4 = .ok (.iconst 0, 1) := by decide +kernel
theorem dX12_rank_5 : decode cX12_rank 5 = .ok (.goto 66, 3) := by decide +kernel
theorem dX12_rank_8 : decode cX12_rank 8 = .ok (.iload_n 0, 1) := by decide +kernel
theorem dX12_rank_9 : decode cX12_rank 9 = .ok (.bipush 11, 2) := by decide +kernel
theorem dX12_rank_11 : decode cX12_rank 11 = .ok (.if_icmp .ne 7, 3) := by decide +kernel
theorem dX12_rank_14 : decode cX12_rank 14 = .ok (.iconst 1, 1) := by decide +kernel
theorem dX12_rank_15 : decode cX12_rank 15 = .ok (.goto 56, 3) := by decide +kernel
theorem dX12_rank_18 : decode cX12_rank 18 = .ok (.iload_n 0, 1) := by decide +kernel
theorem dX12_rank_19 : decode cX12_rank 19 = .ok (.bipush 12, 2) := by decide +kernel
theorem dX12_rank_21 : decode cX12_rank 21 = .ok (.if_icmp .ne 7, 3) := by decide +kernel
theorem dX12_rank_24 : decode cX12_rank 24 = .ok (.iconst 2, 1) := by decide +kernel
theorem dX12_rank_25 : decode cX12_rank 25 = .ok (.goto 46, 3) := by decide +kernel
theorem dX12_rank_28 : decode cX12_rank 28 = .ok (.iload_n 0, 1) := by decide +kernel
theorem dX12_rank_29 : decode cX12_rank 29 = .ok (.bipush 13, 2) := by decide +kernel
theorem dX12_rank_31 : decode cX12_rank 31 = .ok (.if_icmp .ne 7, 3) := by decide +kernel
theorem dX12_rank_34 : decode cX12_rank 34 = .ok (.iconst 3, 1) := by decide +kernel
theorem dX12_rank_35 : decode cX12_rank 35 = .ok (.goto 36, 3) := by decide +kernel
theorem dX12_rank_38 : decode cX12_rank 38 = .ok (.iload_n 0, 1) := by decide +kernel
theorem dX12_rank_39 : decode cX12_rank 39 = .ok (.bipush 15, 2) := by decide +kernel
theorem dX12_rank_41 : decode cX12_rank 41 = .ok (.if_icmp .gt 7, 3) := by decide +kernel
theorem dX12_rank_44 : decode cX12_rank 44 = .ok (.iconst 4, 1) := by decide +kernel
theorem dX12_rank_45 : decode cX12_rank 45 = .ok (.goto 26, 3) := by decide +kernel
theorem dX12_rank_48 : decode cX12_rank 48 = .ok (.iload_n 0, 1) := by decide +kernel
theorem dX12_rank_49 : decode cX12_rank 49 = .ok (.bipush 17, 2) := by decide +kernel
theorem dX12_rank_51 : decode cX12_rank 51 = .ok (.if_icmp .gt 7, 3) := by decide +kernel
theorem dX12_rank_54 : decode cX12_rank 54 = .ok (.iconst 5, 1) := by decide +kernel
theorem dX12_rank_55 : decode cX12_rank 55 = .ok (.goto 16, 3) := by decide +kernel
theorem dX12_rank_58 : decode cX12_rank 58 = .ok (.iload_n 0, 1) := by decide +kernel
theorem dX12_rank_59 : decode cX12_rank 59 = .ok (.bipush 18, 2) := by decide +kernel
theorem dX12_rank_61 : decode cX12_rank 61 = .ok (.if_icmp .ne 8, 3) := by decide +kernel
theorem dX12_rank_64 : decode cX12_rank 64 = .ok (.bipush 6, 2) := by decide +kernel
theorem dX12_rank_66 : decode cX12_rank 66 = .ok (.goto 5, 3) := by decide +kernel
theorem dX12_rank_69 : decode cX12_rank 69 = .ok (.bipush 7, 2) := by decide +kernel
theorem dX12_rank_71 : decode cX12_rank 71 = .ok (.ireturn, 1) := by decide +kernel
theorem dX12_puts_0 : decode cX12_puts 0 = .ok (.aload_n 0, 1) := by decide +kernel
theorem dX12_puts_1 : decode cX12_puts 1 = .ok (.getfield 55, 3) := by decide +kernel
theorem dX12_puts_4 : decode cX12_puts 4 = .ok (.sipush 200, 3) := by decide +kernel
theorem dX12_puts_7 : decode cX12_puts 7 = .ok (.aload_n 0, 1) := by decide +kernel
theorem dX12_puts_8 : decode cX12_puts 8 = .ok (.getfield 61, 3) := by decide +kernel
theorem dX12_puts_11 : decode cX12_puts 11 = .ok (.imul, 1) := by decide +kernel
theorem dX12_puts_12 : decode cX12_puts 12 = .ok (.aload_n 0, 1) := by decide +kernel
theorem dX12_puts_13 : decode cX12_puts 13 = .ok (.getfield 227, 3) := by decide +kernel
theorem dX12_puts_16 : decode cX12_puts 16 = .ok (.iadd, 1) := by decide +kernel
theorem dX12_puts_17 : decode cX12_puts 17 = .ok (.iload_n 1, 1) := by decide +kernel
theorem dX12_puts_18 : decode cX12_puts 18 = .ok (.iastore, 1) := by decide +kernel
theorem dX12_puts_19 : decode cX12_puts 19 = .ok (.aload_n 0, 1) := by decide +kernel
theorem dX12_puts_20 : decode cX12_puts 20 = .ok (.dup, 1) := by decide +kernel
theorem dX12_puts_21 : decode cX12_puts 21 = .ok (.getfield 227, 3) := by decide +kernel
theorem dX12_puts_24 : decode cX12_puts 24 = .ok (.iconst 1, 1) := by decide +kernel
theorem dX12_puts_25 : decode cX12_puts 25 = .ok (.iadd, 1) := by decide +kernel
theorem dX12_puts_26 : decode cX12_puts 26 = .ok (.putfield 227, 3) := by decide +kernel
theorem dX12_puts_29 : decode cX12_puts 29 = .ok (.return_, 1) := by decide +kernel
theorem dX12_unwinds_0 : decode cX12_unwinds 0 = .ok (.aload_n 0, 1) := by decide +kernel
theorem dX12_unwinds_1 : decode cX12_unwinds 1 = .ok (.getfield 230, 3) := by decide +kernel
theorem dX12_unwinds_4 : decode cX12_unwinds 4 = .ok (.ifCond .le 75, 3) := by decide +kernel
theorem dX12_unwinds_7 : decode cX12_unwinds 7 = .ok (.aload_n 0, 1) := by decide +kernel
theorem dX12_unwinds_8 : decode cX12_unwinds 8 = .ok (.getfield 129, 3) := by decide +kernel
theorem dX12_unwinds_11 : decode cX12_unwinds 11 = .ok (.aload_n 0, 1) := by decide +kernel
theorem dX12_unwinds_12 : decode cX12_unwinds 12 = .ok (.getfield 230, 3) := by decide +kernel
theorem dX12_unwinds_15 : decode cX12_unwinds 15 = .ok (.iconst 1, 1) := by decide +kernel
theorem dX12_unwinds_16 : decode cX12_unwinds 16 = .ok (.isub, 1) := by decide +kernel
theorem dX12_unwinds_17 : decode cX12_unwinds 17 = .ok (.iaload, 1) := by decide +kernel
theorem dX12_unwinds_18 : decode cX12_unwinds 18 = .ok (.invokestatic 233, 3) := by decide +kernel
theorem dX12_unwinds_21 : decode cX12_unwinds 21 = .ok (.iload_n 1, 1) := by decide +kernel
theorem dX12_unwinds_22 : decode cX12_unwinds 22 = .ok (.if_icmp .lt 57, 3) := by decide +kernel
theorem dX12_unwinds_25 : decode cX12_unwinds 25 = .ok (.aload_n 0, 1) := by decide +kernel
theorem dX12_unwinds_26 : decode cX12_unwinds 26 = .ok (.dup, 1) := by decide +kernel
theorem dX12_unwinds_27 : decode cX12_unwinds 27 = .ok (.getfield 230, 3) := by decide +kernel
theorem dX12_unwinds_30 : decode cX12_unwinds 30 = .ok (.iconst 1, 1) := by decide +kernel
theorem dX12_unwinds_31 : decode cX12_unwinds 31 = .ok (.isub, 1) := by decide +kernel
theorem dX12_unwinds_32 : decode cX12_unwinds 32 = .ok (.putfield 230, 3) := by decide +kernel
theorem dX12_unwinds_35 : decode cX12_unwinds 35 = .ok (.aload_n 0, 1) := by decide +kernel
theorem dX12_unwinds_36 : decode cX12_unwinds 36 = .ok (.getfield 129, 3) := by decide +kernel
theorem dX12_unwinds_39 : decode cX12_unwinds 39 = .ok (.aload_n 0, 1) := by decide +kernel
theorem dX12_unwinds_40 : decode cX12_unwinds 40 = .ok (.getfield 230, 3) := by decide +kernel
theorem dX12_unwinds_43 : decode cX12_unwinds 43 = .ok (.iaload, 1) := by decide +kernel
theorem dX12_unwinds_44 : decode cX12_unwinds 44 = .ok (.istore_n 2, 1) := by decide +kernel
theorem dX12_unwinds_45 : decode cX12_unwinds 45 = .ok (.aload_n 0, 1) := by decide +kernel
theorem dX12_unwinds_46 : decode cX12_unwinds 46 = .ok (.dup, 1) := by decide +kernel
theorem dX12_unwinds_47 : decode cX12_unwinds 47 = .ok (.getfield 236, 3) := by decide +kernel
theorem dX12_unwinds_50 : decode cX12_unwinds 50 = .ok (.iload_n 2, 1) := by decide +kernel
theorem dX12_unwinds_51 : decode cX12_unwinds 51 = .ok (.bipush 13, 2) := by decide +kernel
theorem dX12_unwinds_53 : decode cX12_unwinds 53 = .ok (.if_icmp .eq 9, 3) := by decide +kernel
theorem dX12_unwinds_56 : decode cX12_unwinds 56 = .ok (.iload_n 2, 1) := by decide +kernel
theorem dX12_unwinds_57 : decode cX12_unwinds 57 = .ok (.bipush 19, 2) := by decide +kernel
theorem dX12_unwinds_59 : decode cX12_unwinds 59 = .ok (.if_icmp .ne 7, 3) := by decide +kernel
theorem dX12_unwinds_62 : decode cX12_unwinds 62 = .ok (.iconst 1, 1) := by decide +kernel
theorem dX12_unwinds_63 : decode cX12_unwinds 63 = .ok (.goto 4, 3) := by decide +kernel
theorem dX12_unwinds_66 : decode cX12_unwinds 66 = .ok (.iconst 0, 1) := by decide +kernel
theorem dX12_unwinds_67 : decode cX12_unwinds 67 = .ok (.isub, 1) := by decide +kernel
theorem dX12_unwinds_68 : decode cX12_unwinds 68 = .ok (.putfield 236, 3) := by decide +kernel
theorem dX12_unwinds_71 : decode cX12_unwinds 71 = .ok (.aload_n 0, 1) := by decide +kernel
theorem dX12_unwinds_72 : decode cX12_unwinds 72 = .ok (.iload_n 2, 1) := by decide +kernel
theorem dX12_unwinds_73 : decode cX12_unwinds 73 = .ok (.invokevirtual 239, 3) := by decide +kernel
theorem dX12_unwinds_76 : decode cX12_unwinds 76 = .ok (.goto (-76), 3) := by decide +kernel
theorem dX12_unwinds_79 : decode cX12_unwinds 79 = .ok (.return_, 1) := by decide +kernel
theorem dX12_holds_0 : decode cX12_holds 0 = .ok (.aload_n 0, 1) := by decide +kernel
theorem dX12_holds_1 : decode cX12_holds 1 = .ok (.getfield 129, 3) := by decide +kernel
theorem dX12_holds_4 : decode cX12_holds 4 = .ok (.aload_n 0, 1) := by decide +kernel
theorem dX12_holds_5 : decode cX12_holds 5 = .ok (.getfield 230, 3) := by decide +kernel
theorem dX12_holds_8 : decode cX12_holds 8 = .ok (.iload_n 1, 1) := by decide +kernel
theorem dX12_holds_9 : decode cX12_holds 9 = .ok (.iastore, 1) := by decide +kernel
theorem dX12_holds_10 : decode cX12_holds 10 = .ok (.aload_n 0, 1) := by decide +kernel
theorem dX12_holds_11 : decode cX12_holds 11 = .ok (.dup, 1) := by decide +kernel
theorem dX12_holds_12 : decode cX12_holds 12 = .ok (.getfield 230, 3) := by decide +kernel
theorem dX12_holds_15 : decode cX12_holds 15 = .ok (.iconst 1, 1) := by decide +kernel
theorem dX12_holds_16 : decode cX12_holds 16 = .ok (.iadd, 1) := by decide +kernel
theorem dX12_holds_17 : decode cX12_holds 17 = .ok (.putfield 230, 3) := by decide +kernel
theorem dX12_holds_20 : decode cX12_holds 20 = .ok (.return_, 1) := by decide +kernel
theorem dX12_opensOne_0 : decode cX12_opensOne 0 = .ok (.aload_n 0, 1) := by decide +kernel
theorem dX12_opensOne_1 : decode cX12_opensOne 1 = .ok (.getfield 236, 3) := by decide +kernel
theorem dX12_opensOne_4 : decode cX12_opensOne 4 = .ok (.iconst 5, 1) := by decide +kernel
theorem dX12_opensOne_5 : decode cX12_opensOne 5 = .ok (.if_icmp .ne 5, 3) := by decide +kernel
theorem dX12_opensOne_8 : decode cX12_opensOne 8 = .ok (.iconst 0, 1) := by decide +kernel
theorem dX12_opensOne_9 : decode cX12_opensOne 9 = .ok (.ireturn, 1) := by decide +kernel
theorem dX12_opensOne_10 : decode cX12_opensOne 10 = .ok (.aload_n 0, 1) := by decide +kernel
theorem dX12_opensOne_11 : decode cX12_opensOne 11 = .ok (.dup, 1) := by decide +kernel
theorem dX12_opensOne_12 : decode cX12_opensOne 12 = .ok (.getfield 236, 3) := by decide +kernel
theorem dX12_opensOne_15 : decode cX12_opensOne 15 = .ok (.iconst 1, 1) := by decide +kernel
theorem dX12_opensOne_16 : decode cX12_opensOne 16 = .ok (.iadd, 1) := by decide +kernel
theorem dX12_opensOne_17 : decode cX12_opensOne 17 = .ok (.putfield 236, 3) := by decide +kernel
theorem dX12_opensOne_20 : decode cX12_opensOne 20 = .ok (.aload_n 0, 1) := by decide +kernel
theorem dX12_opensOne_21 : decode cX12_opensOne 21 = .ok (.iload_n 1, 1) := by decide +kernel
theorem dX12_opensOne_22 : decode cX12_opensOne 22 = .ok (.invokevirtual 243, 3) := by decide +kernel
theorem dX12_opensOne_25 : decode cX12_opensOne 25 = .ok (.iconst 1, 1) := by decide +kernel
theorem dX12_opensOne_26 : decode cX12_opensOne 26 = .ok (.ireturn, 1) := by decide +kernel
theorem dX12_between_0 : decode cX12_between 0 = .ok (.aload_n 0, 1) := by decide +kernel
theorem dX12_between_1 : decode cX12_between 1 = .ok (.iload_n 1, 1) := by decide +kernel
theorem dX12_between_2 : decode cX12_between 2 = .ok (.invokestatic 233, 3) := by decide +kernel
theorem dX12_between_5 : decode cX12_between 5 = .ok (.iconst 4, 1) := by decide +kernel
theorem dX12_between_6 : decode cX12_between 6 = .ok (.if_icmp .ne 7, 3) := by decide +kernel
theorem dX12_between_9 : decode cX12_between 9 = .ok (.iconst 5, 1) := by decide +kernel
theorem dX12_between_10 : decode cX12_between 10 = .ok (.goto 7, 3) := by decide +kernel
theorem dX12_between_13 : decode cX12_between 13 = .ok (.iload_n 1, 1) := by decide +kernel
theorem dX12_between_14 : decode cX12_between 14 = .ok (.invokestatic 233, 3) := by decide +kernel
theorem dX12_between_17 : decode cX12_between 17 = .ok (.invokevirtual 246, 3) := by decide +kernel
theorem dX12_between_20 : decode cX12_between 20 = .ok (.iload_n 1, 1) := by decide +kernel
theorem dX12_between_21 : decode cX12_between 21 = .ok (.invokestatic 233, 3) := by decide +kernel
theorem dX12_between_24 : decode cX12_between 24 = .ok (.iconst 4, 1) := by decide +kernel
theorem dX12_between_25 : decode cX12_between 25 = .ok (.if_icmp .ne 30, 3) := by decide +kernel
theorem dX12_between_28 : decode cX12_between 28 = .ok (.aload_n 0, 1) := by decide +kernel
theorem dX12_between_29 : decode cX12_between 29 = .ok (.getfield 230, 3) := by decide +kernel
theorem dX12_between_32 : decode cX12_between 32 = .ok (.ifCond .le 23, 3) := by decide +kernel
theorem dX12_between_35 : decode cX12_between 35 = .ok (.aload_n 0, 1) := by decide +kernel
theorem dX12_between_36 : decode cX12_between 36 = .ok (.getfield 129, 3) := by decide +kernel
theorem dX12_between_39 : decode cX12_between 39 = .ok (.aload_n 0, 1) := by decide +kernel
theorem dX12_between_40 : decode cX12_between 40 = .ok (.getfield 230, 3) := by decide +kernel
theorem dX12_between_43 : decode cX12_between 43 = .ok (.iconst 1, 1) := by decide +kernel
theorem dX12_between_44 : decode cX12_between 44 = .ok (.isub, 1) := by decide +kernel
theorem dX12_between_45 : decode cX12_between 45 = .ok (.iaload, 1) := by decide +kernel
theorem dX12_between_46 : decode cX12_between 46 = .ok (.invokestatic 233, 3) := by decide +kernel
theorem dX12_between_49 : decode cX12_between 49 = .ok (.iconst 4, 1) := by decide +kernel
theorem dX12_between_50 : decode cX12_between 50 = .ok (.if_icmp .ne 5, 3) := by decide +kernel
theorem dX12_between_53 : decode cX12_between 53 = .ok (.iconst 0, 1) := by decide +kernel
theorem dX12_between_54 : decode cX12_between 54 = .ok (.ireturn, 1) := by decide +kernel
theorem dX12_between_55 : decode cX12_between 55 = .ok (.aload_n 0, 1) := by decide +kernel
theorem dX12_between_56 : decode cX12_between 56 = .ok (.iload_n 1, 1) := by decide +kernel
theorem dX12_between_57 : decode cX12_between 57 = .ok (.invokevirtual 243, 3) := by decide +kernel
theorem dX12_between_60 : decode cX12_between 60 = .ok (.iconst 1, 1) := by decide +kernel
theorem dX12_between_61 : decode cX12_between 61 = .ok (.ireturn, 1) := by decide +kernel
theorem dX12_signOf_0 : decode cX12_signOf 0 = .ok (.aload_n 0, 1) := by decide +kernel
theorem dX12_signOf_1 : decode cX12_signOf 1 = .ok (.getfield 217, 3) := by decide +kernel
theorem dX12_signOf_4 : decode cX12_signOf 4 = .ok (.iconst 4, 1) := by decide +kernel
theorem dX12_signOf_5 : decode cX12_signOf 5 = .ok (.if_icmp .ne 8, 3) := by decide +kernel
theorem dX12_signOf_8 : decode cX12_signOf 8 = .ok (.bipush 11, 2) := by decide +kernel
theorem dX12_signOf_10 : decode cX12_signOf 10 = .ok (.goto 87, 3) := by decide +kernel
theorem dX12_signOf_13 : decode cX12_signOf 13 = .ok (.aload_n 0, 1) := by decide +kernel
theorem dX12_signOf_14 : decode cX12_signOf 14 = .ok (.getfield 217, 3) := by decide +kernel
theorem dX12_signOf_17 : decode cX12_signOf 17 = .ok (.iconst 5, 1) := by decide +kernel
theorem dX12_signOf_18 : decode cX12_signOf 18 = .ok (.if_icmp .ne 8, 3) := by decide +kernel
theorem dX12_signOf_21 : decode cX12_signOf 21 = .ok (.bipush 12, 2) := by decide +kernel
theorem dX12_signOf_23 : decode cX12_signOf 23 = .ok (.goto 74, 3) := by decide +kernel
theorem dX12_signOf_26 : decode cX12_signOf 26 = .ok (.aload_n 0, 1) := by decide +kernel
theorem dX12_signOf_27 : decode cX12_signOf 27 = .ok (.getfield 217, 3) := by decide +kernel
theorem dX12_signOf_30 : decode cX12_signOf 30 = .ok (.bipush 60, 2) := by decide +kernel
theorem dX12_signOf_32 : decode cX12_signOf 32 = .ok (.if_icmp .ne 8, 3) := by decide +kernel
theorem dX12_signOf_35 : decode cX12_signOf 35 = .ok (.bipush 14, 2) := by decide +kernel
theorem dX12_signOf_37 : decode cX12_signOf 37 = .ok (.goto 60, 3) := by decide +kernel
theorem dX12_signOf_40 : decode cX12_signOf 40 = .ok (.aload_n 0, 1) := by decide +kernel
theorem dX12_signOf_41 : decode cX12_signOf 41 = .ok (.getfield 217, 3) := by decide +kernel
theorem dX12_signOf_44 : decode cX12_signOf 44 = .ok (.bipush 61, 2) := by decide +kernel
theorem dX12_signOf_46 : decode cX12_signOf 46 = .ok (.if_icmp .ne 8, 3) := by decide +kernel
theorem dX12_signOf_49 : decode cX12_signOf 49 = .ok (.bipush 15, 2) := by decide +kernel
theorem dX12_signOf_51 : decode cX12_signOf 51 = .ok (.goto 46, 3) := by decide +kernel
theorem dX12_signOf_54 : decode cX12_signOf 54 = .ok (.aload_n 0, 1) := by decide +kernel
theorem dX12_signOf_55 : decode cX12_signOf 55 = .ok (.getfield 217, 3) := by decide +kernel
theorem dX12_signOf_58 : decode cX12_signOf 58 = .ok (.bipush 43, 2) := by decide +kernel
theorem dX12_signOf_60 : decode cX12_signOf 60 = .ok (.if_icmp .ne 8, 3) := by decide +kernel
theorem dX12_signOf_63 : decode cX12_signOf 63 = .ok (.bipush 16, 2) := by decide +kernel
theorem dX12_signOf_65 : decode cX12_signOf 65 = .ok (.goto 32, 3) := by decide +kernel
theorem dX12_signOf_68 : decode cX12_signOf 68 = .ok (.aload_n 0, 1) := by decide +kernel
theorem dX12_signOf_69 : decode cX12_signOf 69 = .ok (.getfield 217, 3) := by decide +kernel
theorem dX12_signOf_72 : decode cX12_signOf 72 = .ok (.bipush 45, 2) := by decide +kernel
theorem dX12_signOf_74 : decode cX12_signOf 74 = .ok (.if_icmp .ne 8, 3) := by decide +kernel
theorem dX12_signOf_77 : decode cX12_signOf 77 = .ok (.bipush 17, 2) := by decide +kernel
theorem dX12_signOf_79 : decode cX12_signOf 79 = .ok (.goto 18, 3) := by decide +kernel
theorem dX12_signOf_82 : decode cX12_signOf 82 = .ok (.aload_n 0, 1) := by decide +kernel
theorem dX12_signOf_83 : decode cX12_signOf 83 = .ok (.getfield 217, 3) := by decide +kernel
theorem dX12_signOf_86 : decode cX12_signOf 86 = .ok (.bipush 42, 2) := by decide +kernel
theorem dX12_signOf_88 : decode cX12_signOf 88 = .ok (.if_icmp .ne 8, 3) := by decide +kernel
theorem dX12_signOf_91 : decode cX12_signOf 91 = .ok (.bipush 18, 2) := by decide +kernel
theorem dX12_signOf_93 : decode cX12_signOf 93 = .ok (.goto 4, 3) := by decide +kernel
theorem dX12_signOf_96 : decode cX12_signOf 96 = .ok (.iconst (-1), 1) := by decide +kernel
theorem dX12_signOf_97 : decode cX12_signOf 97 = .ok (.ireturn, 1) := by decide +kernel
theorem dX12_eRead_0 : decode cX12_eRead 0 = .ok (.aload_n 0, 1) := by decide +kernel
theorem dX12_eRead_1 : decode cX12_eRead 1 = .ok (.iconst 0, 1) := by decide +kernel
theorem dX12_eRead_2 : decode cX12_eRead 2 = .ok (.putfield 230, 3) := by decide +kernel
theorem dX12_eRead_5 : decode cX12_eRead 5 = .ok (.aload_n 0, 1) := by decide +kernel
theorem dX12_eRead_6 : decode cX12_eRead 6 = .ok (.iconst 0, 1) := by decide +kernel
theorem dX12_eRead_7 : decode cX12_eRead 7 = .ok (.putfield 236, 3) := by decide +kernel
theorem dX12_eRead_10 : decode cX12_eRead 10 = .ok (.iconst 1, 1) := by decide +kernel
theorem dX12_eRead_11 : decode cX12_eRead 11 = .ok (.istore_n 1, 1) := by decide +kernel
theorem dX12_eRead_12 : decode cX12_eRead 12 = .ok (.iconst 1, 1) := by decide +kernel
theorem dX12_eRead_13 : decode cX12_eRead 13 = .ok (.istore_n 2, 1) := by decide +kernel
theorem dX12_eRead_14 : decode cX12_eRead 14 = .ok (.aload_n 0, 1) := by decide +kernel
theorem dX12_eRead_15 : decode cX12_eRead 15 = .ok (.invokevirtual 249, 3) := by decide +kernel
theorem dX12_eRead_18 : decode cX12_eRead 18 = .ok (.iload_n 1, 1) := by decide +kernel
theorem dX12_eRead_19 : decode cX12_eRead 19 = .ok (.ifCond .eq 131, 3) := by decide +kernel
theorem dX12_eRead_22 : decode cX12_eRead 22 = .ok (.aload_n 0, 1) := by decide +kernel
theorem dX12_eRead_23 : decode cX12_eRead 23 = .ok (.getfield 217, 3) := by decide +kernel
theorem dX12_eRead_26 : decode cX12_eRead 26 = .ok (.iconst 1, 1) := by decide +kernel
theorem dX12_eRead_27 : decode cX12_eRead 27 = .ok (.if_icmp .eq 11, 3) := by decide +kernel
theorem dX12_eRead_30 : decode cX12_eRead 30 = .ok (.aload_n 0, 1) := by decide +kernel
theorem dX12_eRead_31 : decode cX12_eRead 31 = .ok (.getfield 217, 3) := by decide +kernel
theorem dX12_eRead_34 : decode cX12_eRead 34 = .ok (.iconst 2, 1) := by decide +kernel
theorem dX12_eRead_35 : decode cX12_eRead 35 = .ok (.if_icmp .ne 40, 3) := by decide +kernel
theorem dX12_eRead_38 : decode cX12_eRead 38 = .ok (.aload_n 0, 1) := by decide +kernel
theorem dX12_eRead_39 : decode cX12_eRead 39 = .ok (.aload_n 0, 1) := by decide +kernel
theorem dX12_eRead_40 : decode cX12_eRead 40 = .ok (.getfield 217, 3) := by decide +kernel
theorem dX12_eRead_43 : decode cX12_eRead 43 = .ok (.iconst 1, 1) := by decide +kernel
theorem dX12_eRead_44 : decode cX12_eRead 44 = .ok (.if_icmp .ne 13, 3) := by decide +kernel
theorem dX12_eRead_47 : decode cX12_eRead 47 = .ok (.ldc 252, 2) := by decide +kernel
theorem dX12_eRead_49 : decode cX12_eRead 49 = .ok (.aload_n 0, 1) := by decide +kernel
theorem dX12_eRead_50 : decode cX12_eRead 50 = .ok (.getfield 220, 3) := by decide +kernel
theorem dX12_eRead_53 : decode cX12_eRead 53 = .ok (.iadd, 1) := by decide +kernel
theorem dX12_eRead_54 : decode cX12_eRead 54 = .ok (.goto 7, 3) := by decide +kernel
theorem dX12_eRead_57 : decode cX12_eRead 57 = .ok (.aload_n 0, 1) := by decide +kernel
theorem dX12_eRead_58 : decode cX12_eRead 58 = .ok (.getfield 220, 3) := by decide +kernel
theorem dX12_eRead_61 : decode cX12_eRead 61 = .ok (.invokevirtual 239, 3) := by decide +kernel
theorem dX12_eRead_64 : decode cX12_eRead 64 = .ok (.aload_n 0, 1) := by decide +kernel
theorem dX12_eRead_65 : decode cX12_eRead 65 = .ok (.bipush 7, 2) := by decide +kernel
theorem dX12_eRead_67 : decode cX12_eRead 67 = .ok (.invokevirtual 246, 3) := by decide +kernel
theorem dX12_eRead_70 : decode cX12_eRead 70 = .ok (.iconst 0, 1) := by decide +kernel
theorem dX12_eRead_71 : decode cX12_eRead 71 = .ok (.istore_n 1, 1) := by decide +kernel
theorem dX12_eRead_72 : decode cX12_eRead 72 = .ok (.goto (-58), 3) := by decide +kernel
theorem dX12_eRead_75 : decode cX12_eRead 75 = .ok (.aload_n 0, 1) := by decide +kernel
theorem dX12_eRead_76 : decode cX12_eRead 76 = .ok (.getfield 217, 3) := by decide +kernel
theorem dX12_eRead_79 : decode cX12_eRead 79 = .ok (.bipush 6, 2) := by decide +kernel
theorem dX12_eRead_81 : decode cX12_eRead 81 = .ok (.if_icmp .ne 18, 3) := by decide +kernel
theorem dX12_eRead_84 : decode cX12_eRead 84 = .ok (.iload_n 2, 1) := by decide +kernel
theorem dX12_eRead_85 : decode cX12_eRead 85 = .ok (.ifCond .eq 14, 3) := by decide +kernel
theorem dX12_eRead_88 : decode cX12_eRead 88 = .ok (.aload_n 0, 1) := by decide +kernel
theorem dX12_eRead_89 : decode cX12_eRead 89 = .ok (.bipush 13, 2) := by decide +kernel
theorem dX12_eRead_91 : decode cX12_eRead 91 = .ok (.invokevirtual 253, 3) := by decide +kernel
theorem dX12_eRead_94 : decode cX12_eRead 94 = .ok (.ifCond .ne (-80), 3) := by decide +kernel
theorem dX12_eRead_97 : decode cX12_eRead 97 = .ok (.iconst 0, 1) := by decide +kernel
theorem dX12_eRead_98 : decode cX12_eRead 98 = .ok (.ireturn, 1) := by decide +kernel
theorem dX12_eRead_99 : decode cX12_eRead 99 = .ok (.aload_n 0, 1) := by decide +kernel
theorem dX12_eRead_100 : decode cX12_eRead 100 = .ok (.getfield 217, 3) := by decide +kernel
theorem dX12_eRead_103 : decode cX12_eRead 103 = .ok (.bipush 45, 2) := by decide +kernel
theorem dX12_eRead_105 : decode cX12_eRead 105 = .ok (.if_icmp .ne 19, 3) := by decide +kernel
theorem dX12_eRead_108 : decode cX12_eRead 108 = .ok (.aload_n 0, 1) := by decide +kernel
theorem dX12_eRead_109 : decode cX12_eRead 109 = .ok (.bipush 19, 2) := by decide +kernel
theorem dX12_eRead_111 : decode cX12_eRead 111 = .ok (.invokevirtual 253, 3) := by decide +kernel
theorem dX12_eRead_114 : decode cX12_eRead 114 = .ok (.ifCond .ne 5, 3) := by decide +kernel
theorem dX12_eRead_117 : decode cX12_eRead 117 = .ok (.iconst 0, 1) := by decide +kernel
theorem dX12_eRead_118 : decode cX12_eRead 118 = .ok (.ireturn, 1) := by decide +kernel
theorem dX12_eRead_119 : decode cX12_eRead 119 = .ok (.iconst 0, 1) := by decide +kernel
theorem dX12_eRead_120 : decode cX12_eRead 120 = .ok (.istore_n 2, 1) := by decide +kernel
theorem dX12_eRead_121 : decode cX12_eRead 121 = .ok (.goto (-107), 3) := by decide +kernel
theorem dX12_eRead_124 : decode cX12_eRead 124 = .ok (.aload_n 0, 1) := by decide +kernel
theorem dX12_eRead_125 : decode cX12_eRead 125 = .ok (.getfield 217, 3) := by decide +kernel
theorem dX12_eRead_128 : decode cX12_eRead 128 = .ok (.bipush 40, 2) := by decide +kernel
theorem dX12_eRead_130 : decode cX12_eRead 130 = .ok (.if_icmp .ne 18, 3) := by decide +kernel
theorem dX12_eRead_133 : decode cX12_eRead 133 = .ok (.aload_n 0, 1) := by decide +kernel
theorem dX12_eRead_134 : decode cX12_eRead 134 = .ok (.iconst 0, 1) := by decide +kernel
theorem dX12_eRead_135 : decode cX12_eRead 135 = .ok (.invokevirtual 253, 3) := by decide +kernel
theorem dX12_eRead_138 : decode cX12_eRead 138 = .ok (.ifCond .ne 5, 3) := by decide +kernel
theorem dX12_eRead_141 : decode cX12_eRead 141 = .ok (.iconst 0, 1) := by decide +kernel
theorem dX12_eRead_142 : decode cX12_eRead 142 = .ok (.ireturn, 1) := by decide +kernel
theorem dX12_eRead_143 : decode cX12_eRead 143 = .ok (.iconst 1, 1) := by decide +kernel
theorem dX12_eRead_144 : decode cX12_eRead 144 = .ok (.istore_n 2, 1) := by decide +kernel
theorem dX12_eRead_145 : decode cX12_eRead 145 = .ok (.goto (-131), 3) := by decide +kernel
theorem dX12_eRead_148 : decode cX12_eRead 148 = .ok (.iconst 0, 1) := by decide +kernel
theorem dX12_eRead_149 : decode cX12_eRead 149 = .ok (.ireturn, 1) := by decide +kernel
theorem dX12_eRead_150 : decode cX12_eRead 150 = .ok (.aload_n 0, 1) := by decide +kernel
theorem dX12_eRead_151 : decode cX12_eRead 151 = .ok (.getfield 217, 3) := by decide +kernel
theorem dX12_eRead_154 : decode cX12_eRead 154 = .ok (.bipush 59, 2) := by decide +kernel
theorem dX12_eRead_156 : decode cX12_eRead 156 = .ok (.if_icmp .ne 21, 3) := by decide +kernel
theorem dX12_eRead_159 : decode cX12_eRead 159 = .ok (.aload_n 0, 1) := by decide +kernel
theorem dX12_eRead_160 : decode cX12_eRead 160 = .ok (.iconst 1, 1) := by decide +kernel
theorem dX12_eRead_161 : decode cX12_eRead 161 = .ok (.invokevirtual 246, 3) := by decide +kernel
theorem dX12_eRead_164 : decode cX12_eRead 164 = .ok (.aload_n 0, 1) := by decide +kernel
theorem dX12_eRead_165 : decode cX12_eRead 165 = .ok (.getfield 230, 3) := by decide +kernel
theorem dX12_eRead_168 : decode cX12_eRead 168 = .ok (.ifCond .ne 7, 3) := by decide +kernel
theorem dX12_eRead_171 : decode cX12_eRead 171 = .ok (.iconst 1, 1) := by decide +kernel
theorem dX12_eRead_172 : decode cX12_eRead 172 = .ok (.goto 4, 3) := by decide +kernel
theorem dX12_eRead_175 : decode cX12_eRead 175 = .ok (.iconst 0, 1) := by decide +kernel
theorem dX12_eRead_176 : decode cX12_eRead 176 = .ok (.ireturn, 1) := by decide +kernel
theorem dX12_eRead_177 : decode cX12_eRead 177 = .ok (.aload_n 0, 1) := by decide +kernel
theorem dX12_eRead_178 : decode cX12_eRead 178 = .ok (.getfield 217, 3) := by decide +kernel
theorem dX12_eRead_181 : decode cX12_eRead 181 = .ok (.bipush 41, 2) := by decide +kernel
theorem dX12_eRead_183 : decode cX12_eRead 183 = .ok (.if_icmp .ne 46, 3) := by decide +kernel
theorem dX12_eRead_186 : decode cX12_eRead 186 = .ok (.aload_n 0, 1) := by decide +kernel
theorem dX12_eRead_187 : decode cX12_eRead 187 = .ok (.iconst 1, 1) := by decide +kernel
theorem dX12_eRead_188 : decode cX12_eRead 188 = .ok (.invokevirtual 246, 3) := by decide +kernel
theorem dX12_eRead_191 : decode cX12_eRead 191 = .ok (.aload_n 0, 1) := by decide +kernel
theorem dX12_eRead_192 : decode cX12_eRead 192 = .ok (.getfield 230, 3) := by decide +kernel
theorem dX12_eRead_195 : decode cX12_eRead 195 = .ok (.ifCond .ne 5, 3) := by decide +kernel
theorem dX12_eRead_198 : decode cX12_eRead 198 = .ok (.iconst 0, 1) := by decide +kernel
theorem dX12_eRead_199 : decode cX12_eRead 199 = .ok (.ireturn, 1) := by decide +kernel
theorem dX12_eRead_200 : decode cX12_eRead 200 = .ok (.aload_n 0, 1) := by decide +kernel
theorem dX12_eRead_201 : decode cX12_eRead 201 = .ok (.dup, 1) := by decide +kernel
theorem dX12_eRead_202 : decode cX12_eRead 202 = .ok (.getfield 230, 3) := by decide +kernel
theorem dX12_eRead_205 : decode cX12_eRead 205 = .ok (.iconst 1, 1) := by decide +kernel
theorem dX12_eRead_206 : decode cX12_eRead 206 = .ok (.isub, 1) := by decide +kernel
theorem dX12_eRead_207 : decode cX12_eRead 207 = .ok (.putfield 230, 3) := by decide +kernel
theorem dX12_eRead_210 : decode cX12_eRead 210 = .ok (.aload_n 0, 1) := by decide +kernel
theorem dX12_eRead_211 : decode cX12_eRead 211 = .ok (.dup, 1) := by decide +kernel
theorem dX12_eRead_212 : decode cX12_eRead 212 = .ok (.getfield 236, 3) := by decide +kernel
theorem dX12_eRead_215 : decode cX12_eRead 215 = .ok (.iconst 1, 1) := by decide +kernel
theorem dX12_eRead_216 : decode cX12_eRead 216 = .ok (.isub, 1) := by decide +kernel
theorem dX12_eRead_217 : decode cX12_eRead 217 = .ok (.putfield 236, 3) := by decide +kernel
theorem dX12_eRead_220 : decode cX12_eRead 220 = .ok (.aload_n 0, 1) := by decide +kernel
theorem dX12_eRead_221 : decode cX12_eRead 221 = .ok (.bipush 7, 2) := by decide +kernel
theorem dX12_eRead_223 : decode cX12_eRead 223 = .ok (.invokevirtual 246, 3) := by decide +kernel
theorem dX12_eRead_226 : decode cX12_eRead 226 = .ok (.goto (-212), 3) := by decide +kernel
theorem dX12_eRead_229 : decode cX12_eRead 229 = .ok (.aload_n 0, 1) := by decide +kernel
theorem dX12_eRead_230 : decode cX12_eRead 230 = .ok (.invokevirtual 256, 3) := by decide +kernel
theorem dX12_eRead_233 : decode cX12_eRead 233 = .ok (.istore_n 3, 1) := by decide +kernel
theorem dX12_eRead_234 : decode cX12_eRead 234 = .ok (.iload_n 3, 1) := by decide +kernel
theorem dX12_eRead_235 : decode cX12_eRead 235 = .ok (.iconst (-1), 1) := by decide +kernel
theorem dX12_eRead_236 : decode cX12_eRead 236 = .ok (.if_icmp .eq 11, 3) := by decide +kernel
theorem dX12_eRead_239 : decode cX12_eRead 239 = .ok (.aload_n 0, 1) := by decide +kernel
theorem dX12_eRead_240 : decode cX12_eRead 240 = .ok (.iload_n 3, 1) := by decide +kernel
theorem dX12_eRead_241 : decode cX12_eRead 241 = .ok (.invokevirtual 260, 3) := by decide +kernel
theorem dX12_eRead_244 : decode cX12_eRead 244 = .ok (.ifCond .ne 5, 3) := by decide +kernel
theorem dX12_eRead_247 : decode cX12_eRead 247 = .ok (.iconst 0, 1) := by decide +kernel
theorem dX12_eRead_248 : decode cX12_eRead 248 = .ok (.ireturn, 1) := by decide +kernel
theorem dX12_eRead_249 : decode cX12_eRead 249 = .ok (.iconst 1, 1) := by decide +kernel
theorem dX12_eRead_250 : decode cX12_eRead 250 = .ok (.istore_n 1, 1) := by decide +kernel
theorem dX12_eRead_251 : decode cX12_eRead 251 = .ok (.iload_n 3, 1) := by decide +kernel
theorem dX12_eRead_252 : decode cX12_eRead 252 = .ok (.bipush 12, 2) := by decide +kernel
theorem dX12_eRead_254 : decode cX12_eRead 254 = .ok (.if_icmp .gt 7, 3) := by decide +kernel
theorem dX12_eRead_257 : decode cX12_eRead 257 = .ok (.iconst 1, 1) := by decide +kernel
theorem dX12_eRead_258 : decode cX12_eRead 258 = .ok (.goto 4, 3) := by decide +kernel
theorem dX12_eRead_261 : decode cX12_eRead 261 = .ok (.iconst 0, 1) := by decide +kernel
theorem dX12_eRead_262 : decode cX12_eRead 262 = .ok (.istore_n 2, 1) := by decide +kernel
theorem dX12_eRead_263 : decode cX12_eRead 263 = .ok (.goto (-249), 3) := by decide +kernel
theorem dX12_text_0 : decode cX12_text 0 = .ok (.aload_n 0, 1) := by decide +kernel
theorem dX12_text_1 : decode cX12_text 1 = .ok (.getfield 61, 3) := by decide +kernel
theorem dX12_text_4 : decode cX12_text 4 = .ok (.bipush 6, 2) := by decide +kernel
theorem dX12_text_6 : decode cX12_text 6 = .ok (.if_icmp .ne 6, 3) := by decide +kernel
theorem dX12_text_9 : decode cX12_text 9 = .ok (.bipush (-4), 2) := by decide +kernel
theorem dX12_text_11 : decode cX12_text 11 = .ok (.ireturn, 1) := by decide +kernel
theorem dX12_text_12 : decode cX12_text 12 = .ok (.aload_n 0, 1) := by decide +kernel
theorem dX12_text_13 : decode cX12_text 13 = .ok (.iconst 0, 1) := by decide +kernel
theorem dX12_text_14 : decode cX12_text 14 = .ok (.putfield 211, 3) := by decide +kernel
theorem dX12_text_17 : decode cX12_text 17 = .ok (.aload_n 0, 1) := by decide +kernel
theorem dX12_text_18 : decode cX12_text 18 = .ok (.iconst 0, 1) := by decide +kernel
theorem dX12_text_19 : decode cX12_text 19 = .ok (.putfield 227, 3) := by decide +kernel
theorem dX12_text_22 : decode cX12_text 22 = .ok (.iconst 1, 1) := by decide +kernel
theorem dX12_text_23 : decode cX12_text 23 = .ok (.istore_n 1, 1) := by decide +kernel
theorem dX12_text_24 : decode cX12_text 24 = .ok (.iconst 0, 1) := by decide +kernel
theorem dX12_text_25 : decode cX12_text 25 = .ok (.istore_n 2, 1) := by decide +kernel
theorem dX12_text_26 : decode cX12_text 26 = .ok (.iload_n 2, 1) := by decide +kernel
theorem dX12_text_27 : decode cX12_text 27 = .ok (.iconst 3, 1) := by decide +kernel
theorem dX12_text_28 : decode cX12_text 28 = .ok (.if_icmp .ge 73, 3) := by decide +kernel
theorem dX12_text_31 : decode cX12_text 31 = .ok (.iload_n 1, 1) := by decide +kernel
theorem dX12_text_32 : decode cX12_text 32 = .ok (.ifCond .eq 69, 3) := by decide +kernel
theorem dX12_text_35 : decode cX12_text 35 = .ok (.aload_n 0, 1) := by decide +kernel
theorem dX12_text_36 : decode cX12_text 36 = .ok (.invokevirtual 249, 3) := by decide +kernel
theorem dX12_text_39 : decode cX12_text 39 = .ok (.aload_n 0, 1) := by decide +kernel
theorem dX12_text_40 : decode cX12_text 40 = .ok (.getfield 217, 3) := by decide +kernel
theorem dX12_text_43 : decode cX12_text 43 = .ok (.iconst 3, 1) := by decide +kernel
theorem dX12_text_44 : decode cX12_text 44 = .ok (.if_icmp .ne 15, 3) := by decide +kernel
theorem dX12_text_47 : decode cX12_text 47 = .ok (.aload_n 0, 1) := by decide +kernel
theorem dX12_text_48 : decode cX12_text 48 = .ok (.getfield 220, 3) := by decide +kernel
theorem dX12_text_51 : decode cX12_text 51 = .ok (.iload_n 2, 1) := by decide +kernel
theorem dX12_text_52 : decode cX12_text 52 = .ok (.if_icmp .ne 7, 3) := by decide +kernel
theorem dX12_text_55 : decode cX12_text 55 = .ok (.iconst 1, 1) := by decide +kernel
theorem dX12_text_56 : decode cX12_text 56 = .ok (.goto 4, 3) := by decide +kernel
theorem dX12_text_59 : decode cX12_text 59 = .ok (.iconst 0, 1) := by decide +kernel
theorem dX12_text_60 : decode cX12_text 60 = .ok (.istore_n 1, 1) := by decide +kernel
theorem dX12_text_61 : decode cX12_text 61 = .ok (.aload_n 0, 1) := by decide +kernel
theorem dX12_text_62 : decode cX12_text 62 = .ok (.getfield 58, 3) := by decide +kernel
theorem dX12_text_65 : decode cX12_text 65 = .ok (.iconst 4, 1) := by decide +kernel
theorem dX12_text_66 : decode cX12_text 66 = .ok (.aload_n 0, 1) := by decide +kernel
theorem dX12_text_67 : decode cX12_text 67 = .ok (.getfield 61, 3) := by decide +kernel
theorem dX12_text_70 : decode cX12_text 70 = .ok (.imul, 1) := by decide +kernel
theorem dX12_text_71 : decode cX12_text 71 = .ok (.iload_n 2, 1) := by decide +kernel
theorem dX12_text_72 : decode cX12_text 72 = .ok (.iadd, 1) := by decide +kernel
theorem dX12_text_73 : decode cX12_text 73 = .ok (.aload_n 0, 1) := by decide +kernel
theorem dX12_text_74 : decode cX12_text 74 = .ok (.getfield 227, 3) := by decide +kernel
theorem dX12_text_77 : decode cX12_text 77 = .ok (.iastore, 1) := by decide +kernel
theorem dX12_text_78 : decode cX12_text 78 = .ok (.iload_n 1, 1) := by decide +kernel
theorem dX12_text_79 : decode cX12_text 79 = .ok (.ifCond .eq 14, 3) := by decide +kernel
theorem dX12_text_82 : decode cX12_text 82 = .ok (.aload_n 0, 1) := by decide +kernel
theorem dX12_text_83 : decode cX12_text 83 = .ok (.invokevirtual 263, 3) := by decide +kernel
theorem dX12_text_86 : decode cX12_text 86 = .ok (.ifCond .eq 7, 3) := by decide +kernel
theorem dX12_text_89 : decode cX12_text 89 = .ok (.iconst 1, 1) := by decide +kernel
theorem dX12_text_90 : decode cX12_text 90 = .ok (.goto 4, 3) := by decide +kernel
theorem dX12_text_93 : decode cX12_text 93 = .ok (.iconst 0, 1) := by decide +kernel
theorem dX12_text_94 : decode cX12_text 94 = .ok (.istore_n 1, 1) := by decide +kernel
theorem dX12_text_95 : decode cX12_text 95 = .ok (.iinc 2 1, 3) := by decide +kernel
theorem dX12_text_98 : decode cX12_text 98 = .ok (.goto (-72), 3) := by decide +kernel
theorem dX12_text_101 : decode cX12_text 101 = .ok (.iload_n 1, 1) := by decide +kernel
theorem dX12_text_102 : decode cX12_text 102 = .ok (.ifCond .eq 20, 3) := by decide +kernel
theorem dX12_text_105 : decode cX12_text 105 = .ok (.aload_n 0, 1) := by decide +kernel
theorem dX12_text_106 : decode cX12_text 106 = .ok (.invokevirtual 249, 3) := by decide +kernel
theorem dX12_text_109 : decode cX12_text 109 = .ok (.aload_n 0, 1) := by decide +kernel
theorem dX12_text_110 : decode cX12_text 110 = .ok (.getfield 217, 3) := by decide +kernel
theorem dX12_text_113 : decode cX12_text 113 = .ok (.ifCond .ne 7, 3) := by decide +kernel
theorem dX12_text_116 : decode cX12_text 116 = .ok (.iconst 1, 1) := by decide +kernel
theorem dX12_text_117 : decode cX12_text 117 = .ok (.goto 4, 3) := by decide +kernel
theorem dX12_text_120 : decode cX12_text 120 = .ok (.iconst 0, 1) := by decide +kernel
theorem dX12_text_121 : decode cX12_text 121 = .ok (.istore_n 1, 1) := by decide +kernel
theorem dX12_text_122 : decode cX12_text 122 = .ok (.aload_n 0, 1) := by decide +kernel
theorem dX12_text_123 : decode cX12_text 123 = .ok (.getfield 58, 3) := by decide +kernel
theorem dX12_text_126 : decode cX12_text 126 = .ok (.iconst 4, 1) := by decide +kernel
theorem dX12_text_127 : decode cX12_text 127 = .ok (.aload_n 0, 1) := by decide +kernel
theorem dX12_text_128 : decode cX12_text 128 = .ok (.getfield 61, 3) := by decide +kernel
theorem dX12_text_131 : decode cX12_text 131 = .ok (.imul, 1) := by decide +kernel
theorem dX12_text_132 : decode cX12_text 132 = .ok (.iconst 3, 1) := by decide +kernel
theorem dX12_text_133 : decode cX12_text 133 = .ok (.iadd, 1) := by decide +kernel
theorem dX12_text_134 : decode cX12_text 134 = .ok (.aload_n 0, 1) := by decide +kernel
theorem dX12_text_135 : decode cX12_text 135 = .ok (.getfield 227, 3) := by decide +kernel
theorem dX12_text_138 : decode cX12_text 138 = .ok (.iastore, 1) := by decide +kernel
theorem dX12_text_139 : decode cX12_text 139 = .ok (.aload_n 0, 1) := by decide +kernel
theorem dX12_text_140 : decode cX12_text 140 = .ok (.iconst 0, 1) := by decide +kernel
theorem dX12_text_141 : decode cX12_text 141 = .ok (.putfield 206, 3) := by decide +kernel
theorem dX12_text_144 : decode cX12_text 144 = .ok (.iload_n 1, 1) := by decide +kernel
theorem dX12_text_145 : decode cX12_text 145 = .ok (.ifCond .ne 11, 3) := by decide +kernel
theorem dX12_text_148 : decode cX12_text 148 = .ok (.bipush (-100), 2) := by decide +kernel
theorem dX12_text_150 : decode cX12_text 150 = .ok (.aload_n 0, 1) := by decide +kernel
theorem dX12_text_151 : decode cX12_text 151 = .ok (.getfield 214, 3) := by decide +kernel
theorem dX12_text_154 : decode cX12_text 154 = .ok (.isub, 1) := by decide +kernel
theorem dX12_text_155 : decode cX12_text 155 = .ok (.ireturn, 1) := by decide +kernel
theorem dX12_text_156 : decode cX12_text 156 = .ok (.aload_n 0, 1) := by decide +kernel
theorem dX12_text_157 : decode cX12_text 157 = .ok (.dup, 1) := by decide +kernel
theorem dX12_text_158 : decode cX12_text 158 = .ok (.getfield 61, 3) := by decide +kernel
theorem dX12_text_161 : decode cX12_text 161 = .ok (.iconst 1, 1) := by decide +kernel
theorem dX12_text_162 : decode cX12_text 162 = .ok (.iadd, 1) := by decide +kernel
theorem dX12_text_163 : decode cX12_text 163 = .ok (.putfield 61, 3) := by decide +kernel
theorem dX12_text_166 : decode cX12_text 166 = .ok (.aload_n 0, 1) := by decide +kernel
theorem dX12_text_167 : decode cX12_text 167 = .ok (.getfield 61, 3) := by decide +kernel
theorem dX12_text_170 : decode cX12_text 170 = .ok (.iconst 1, 1) := by decide +kernel
theorem dX12_text_171 : decode cX12_text 171 = .ok (.isub, 1) := by decide +kernel
theorem dX12_text_172 : decode cX12_text 172 = .ok (.ireturn, 1) := by decide +kernel
theorem dX12_two_0 : decode cX12_two 0 = .ok (.iload_n 0, 1) := by decide +kernel
theorem dX12_two_1 : decode cX12_two 1 = .ok (.tableswitch 101 11 17 #[43, 57, 101, 71, 82, 93, 97], 43) := by decide +kernel
theorem dX12_two_44 : decode cX12_two 44 = .ok (.iload_n 1, 1) := by decide +kernel
theorem dX12_two_45 : decode cX12_two 45 = .ok (.ifCond .ne 7, 3) := by decide +kernel
theorem dX12_two_48 : decode cX12_two 48 = .ok (.iload_n 2, 1) := by decide +kernel
theorem dX12_two_49 : decode cX12_two 49 = .ok (.ifCond .eq 7, 3) := by decide +kernel
theorem dX12_two_52 : decode cX12_two 52 = .ok (.iconst 1, 1) := by decide +kernel
theorem dX12_two_53 : decode cX12_two 53 = .ok (.goto 4, 3) := by decide +kernel
theorem dX12_two_56 : decode cX12_two 56 = .ok (.iconst 0, 1) := by decide +kernel
theorem dX12_two_57 : decode cX12_two 57 = .ok (.ireturn, 1) := by decide +kernel
theorem dX12_two_58 : decode cX12_two 58 = .ok (.iload_n 1, 1) := by decide +kernel
theorem dX12_two_59 : decode cX12_two 59 = .ok (.ifCond .eq 11, 3) := by decide +kernel
theorem dX12_two_62 : decode cX12_two 62 = .ok (.iload_n 2, 1) := by decide +kernel
theorem dX12_two_63 : decode cX12_two 63 = .ok (.ifCond .eq 7, 3) := by decide +kernel
theorem dX12_two_66 : decode cX12_two 66 = .ok (.iconst 1, 1) := by decide +kernel
theorem dX12_two_67 : decode cX12_two 67 = .ok (.goto 4, 3) := by decide +kernel
theorem dX12_two_70 : decode cX12_two 70 = .ok (.iconst 0, 1) := by decide +kernel
theorem dX12_two_71 : decode cX12_two 71 = .ok (.ireturn, 1) := by decide +kernel
theorem dX12_two_72 : decode cX12_two 72 = .ok (.iload_n 1, 1) := by decide +kernel
theorem dX12_two_73 : decode cX12_two 73 = .ok (.iload_n 2, 1) := by decide +kernel
theorem dX12_two_74 : decode cX12_two 74 = .ok (.if_icmp .ge 7, 3) := by decide +kernel
theorem dX12_two_77 : decode cX12_two 77 = .ok (.iconst 1, 1) := by decide +kernel
theorem dX12_two_78 : decode cX12_two 78 = .ok (.goto 4, 3) := by decide +kernel
theorem dX12_two_81 : decode cX12_two 81 = .ok (.iconst 0, 1) := by decide +kernel
theorem dX12_two_82 : decode cX12_two 82 = .ok (.ireturn, 1) := by decide +kernel
theorem dX12_two_83 : decode cX12_two 83 = .ok (.iload_n 1, 1) := by decide +kernel
theorem dX12_two_84 : decode cX12_two 84 = .ok (.iload_n 2, 1) := by decide +kernel
theorem dX12_two_85 : decode cX12_two 85 = .ok (.if_icmp .ne 7, 3) := by decide +kernel
theorem dX12_two_88 : decode cX12_two 88 = .ok (.iconst 1, 1) := by decide +kernel
theorem dX12_two_89 : decode cX12_two 89 = .ok (.goto 4, 3) := by decide +kernel
theorem dX12_two_92 : decode cX12_two 92 = .ok (.iconst 0, 1) := by decide +kernel
theorem dX12_two_93 : decode cX12_two 93 = .ok (.ireturn, 1) := by decide +kernel
theorem dX12_two_94 : decode cX12_two 94 = .ok (.iload_n 1, 1) := by decide +kernel
theorem dX12_two_95 : decode cX12_two 95 = .ok (.iload_n 2, 1) := by decide +kernel
theorem dX12_two_96 : decode cX12_two 96 = .ok (.iadd, 1) := by decide +kernel
theorem dX12_two_97 : decode cX12_two 97 = .ok (.ireturn, 1) := by decide +kernel
theorem dX12_two_98 : decode cX12_two 98 = .ok (.iload_n 1, 1) := by decide +kernel
theorem dX12_two_99 : decode cX12_two 99 = .ok (.iload_n 2, 1) := by decide +kernel
theorem dX12_two_100 : decode cX12_two 100 = .ok (.isub, 1) := by decide +kernel
theorem dX12_two_101 : decode cX12_two 101 = .ok (.ireturn, 1) := by decide +kernel
theorem dX12_two_102 : decode cX12_two 102 = .ok (.iload_n 1, 1) := by decide +kernel
theorem dX12_two_103 : decode cX12_two 103 = .ok (.iload_n 2, 1) := by decide +kernel
theorem dX12_two_104 : decode cX12_two 104 = .ok (.imul, 1) := by decide +kernel
theorem dX12_two_105 : decode cX12_two 105 = .ok (.ireturn, 1) := by decide +kernel
theorem dX12_says_0 : decode cX12_says 0 = .ok (.iconst 0, 1) := by decide +kernel
theorem dX12_says_1 : decode cX12_says 1 = .ok (.istore_n 3, 1) := by decide +kernel
theorem dX12_says_2 : decode cX12_says 2 = .ok (.aload_n 0, 1) := by decide +kernel
theorem dX12_says_3 : decode cX12_says 3 = .ok (.getfield 58, 3) := by decide +kernel
theorem dX12_says_6 : decode cX12_says 6 = .ok (.iconst 4, 1) := by decide +kernel
theorem dX12_says_7 : decode cX12_says 7 = .ok (.aload_n 0, 1) := by decide +kernel
theorem dX12_says_8 : decode cX12_says 8 = .ok (.getfield 203, 3) := by decide +kernel
theorem dX12_says_11 : decode cX12_says 11 = .ok (.imul, 1) := by decide +kernel
theorem dX12_says_12 : decode cX12_says 12 = .ok (.iload_n 1, 1) := by decide +kernel
theorem dX12_says_13 : decode cX12_says 13 = .ok (.iadd, 1) := by decide +kernel
theorem dX12_says_14 : decode cX12_says 14 = .ok (.iaload, 1) := by decide +kernel
theorem dX12_says_15 : decode cX12_says 15 = .ok (.istore 4, 2) := by decide +kernel
theorem dX12_says_17 : decode cX12_says 17 = .ok (.iload 4, 2) := by decide +kernel
theorem dX12_says_19 : decode cX12_says 19 = .ok (.aload_n 0, 1) := by decide +kernel
theorem dX12_says_20 : decode cX12_says 20 = .ok (.getfield 58, 3) := by decide +kernel
theorem dX12_says_23 : decode cX12_says 23 = .ok (.iconst 4, 1) := by decide +kernel
theorem dX12_says_24 : decode cX12_says 24 = .ok (.aload_n 0, 1) := by decide +kernel
theorem dX12_says_25 : decode cX12_says 25 = .ok (.getfield 203, 3) := by decide +kernel
theorem dX12_says_28 : decode cX12_says 28 = .ok (.imul, 1) := by decide +kernel
theorem dX12_says_29 : decode cX12_says 29 = .ok (.iload_n 1, 1) := by decide +kernel
theorem dX12_says_30 : decode cX12_says 30 = .ok (.iadd, 1) := by decide +kernel
theorem dX12_says_31 : decode cX12_says 31 = .ok (.iconst 1, 1) := by decide +kernel
theorem dX12_says_32 : decode cX12_says 32 = .ok (.iadd, 1) := by decide +kernel
theorem dX12_says_33 : decode cX12_says 33 = .ok (.iaload, 1) := by decide +kernel
theorem dX12_says_34 : decode cX12_says 34 = .ok (.if_icmp .ge 166, 3) := by decide +kernel
theorem dX12_says_37 : decode cX12_says 37 = .ok (.aload_n 0, 1) := by decide +kernel
theorem dX12_says_38 : decode cX12_says 38 = .ok (.getfield 55, 3) := by decide +kernel
theorem dX12_says_41 : decode cX12_says 41 = .ok (.sipush 200, 3) := by decide +kernel
theorem dX12_says_44 : decode cX12_says 44 = .ok (.aload_n 0, 1) := by decide +kernel
theorem dX12_says_45 : decode cX12_says 45 = .ok (.getfield 203, 3) := by decide +kernel
theorem dX12_says_48 : decode cX12_says 48 = .ok (.imul, 1) := by decide +kernel
theorem dX12_says_49 : decode cX12_says 49 = .ok (.iload 4, 2) := by decide +kernel
theorem dX12_says_51 : decode cX12_says 51 = .ok (.iadd, 1) := by decide +kernel
theorem dX12_says_52 : decode cX12_says 52 = .ok (.iaload, 1) := by decide +kernel
theorem dX12_says_53 : decode cX12_says 53 = .ok (.istore 5, 2) := by decide +kernel
theorem dX12_says_55 : decode cX12_says 55 = .ok (.iload 5, 2) := by decide +kernel
theorem dX12_says_57 : decode cX12_says 57 = .ok (.ldc 252, 2) := by decide +kernel
theorem dX12_says_59 : decode cX12_says 59 = .ok (.if_icmp .ge 10, 3) := by decide +kernel
theorem dX12_says_62 : decode cX12_says 62 = .ok (.iload 5, 2) := by decide +kernel
theorem dX12_says_64 : decode cX12_says 64 = .ok (.bipush 11, 2) := by decide +kernel
theorem dX12_says_66 : decode cX12_says 66 = .ok (.if_icmp .ge 37, 3) := by decide +kernel
theorem dX12_says_69 : decode cX12_says 69 = .ok (.aload_n 0, 1) := by decide +kernel
theorem dX12_says_70 : decode cX12_says 70 = .ok (.getfield 132, 3) := by decide +kernel
theorem dX12_says_73 : decode cX12_says 73 = .ok (.iload_n 3, 1) := by decide +kernel
theorem dX12_says_74 : decode cX12_says 74 = .ok (.iload 5, 2) := by decide +kernel
theorem dX12_says_76 : decode cX12_says 76 = .ok (.bipush 11, 2) := by decide +kernel
theorem dX12_says_78 : decode cX12_says 78 = .ok (.if_icmp .ge 13, 3) := by decide +kernel
theorem dX12_says_81 : decode cX12_says 81 = .ok (.aload_n 0, 1) := by decide +kernel
theorem dX12_says_82 : decode cX12_says 82 = .ok (.getfield 135, 3) := by decide +kernel
theorem dX12_says_85 : decode cX12_says 85 = .ok (.iload 5, 2) := by decide +kernel
theorem dX12_says_87 : decode cX12_says 87 = .ok (.iaload, 1) := by decide +kernel
theorem dX12_says_88 : decode cX12_says 88 = .ok (.goto 8, 3) := by decide +kernel
theorem dX12_says_91 : decode cX12_says 91 = .ok (.iload 5, 2) := by decide +kernel
theorem dX12_says_93 : decode cX12_says 93 = .ok (.ldc 252, 2) := by decide +kernel
theorem dX12_says_95 : decode cX12_says 95 = .ok (.isub, 1) := by decide +kernel
theorem dX12_says_96 : decode cX12_says 96 = .ok (.iastore, 1) := by decide +kernel
theorem dX12_says_97 : decode cX12_says 97 = .ok (.iinc 3 1, 3) := by decide +kernel
theorem dX12_says_100 : decode cX12_says 100 = .ok (.goto 94, 3) := by decide +kernel
theorem dX12_says_103 : decode cX12_says 103 = .ok (.iload 5, 2) := by decide +kernel
theorem dX12_says_105 : decode cX12_says 105 = .ok (.bipush 13, 2) := by decide +kernel
theorem dX12_says_107 : decode cX12_says 107 = .ok (.if_icmp .ne 30, 3) := by decide +kernel
theorem dX12_says_110 : decode cX12_says 110 = .ok (.aload_n 0, 1) := by decide +kernel
theorem dX12_says_111 : decode cX12_says 111 = .ok (.getfield 132, 3) := by decide +kernel
theorem dX12_says_114 : decode cX12_says 114 = .ok (.iload_n 3, 1) := by decide +kernel
theorem dX12_says_115 : decode cX12_says 115 = .ok (.iconst 1, 1) := by decide +kernel
theorem dX12_says_116 : decode cX12_says 116 = .ok (.isub, 1) := by decide +kernel
theorem dX12_says_117 : decode cX12_says 117 = .ok (.aload_n 0, 1) := by decide +kernel
theorem dX12_says_118 : decode cX12_says 118 = .ok (.getfield 132, 3) := by decide +kernel
theorem dX12_says_121 : decode cX12_says 121 = .ok (.iload_n 3, 1) := by decide +kernel
theorem dX12_says_122 : decode cX12_says 122 = .ok (.iconst 1, 1) := by decide +kernel
theorem dX12_says_123 : decode cX12_says 123 = .ok (.isub, 1) := by decide +kernel
theorem dX12_says_124 : decode cX12_says 124 = .ok (.iaload, 1) := by decide +kernel
theorem dX12_says_125 : decode cX12_says 125 = .ok (.ifCond .ne 7, 3) := by decide +kernel
theorem dX12_says_128 : decode cX12_says 128 = .ok (.iconst 1, 1) := by decide +kernel
theorem dX12_says_129 : decode cX12_says 129 = .ok (.goto 4, 3) := by decide +kernel
theorem dX12_says_132 : decode cX12_says 132 = .ok (.iconst 0, 1) := by decide +kernel
theorem dX12_says_133 : decode cX12_says 133 = .ok (.iastore, 1) := by decide +kernel
theorem dX12_says_134 : decode cX12_says 134 = .ok (.goto 60, 3) := by decide +kernel
theorem dX12_says_137 : decode cX12_says 137 = .ok (.iload 5, 2) := by decide +kernel
theorem dX12_says_139 : decode cX12_says 139 = .ok (.bipush 19, 2) := by decide +kernel
theorem dX12_says_141 : decode cX12_says 141 = .ok (.if_icmp .ne 23, 3) := by decide +kernel
theorem dX12_says_144 : decode cX12_says 144 = .ok (.aload_n 0, 1) := by decide +kernel
theorem dX12_says_145 : decode cX12_says 145 = .ok (.getfield 132, 3) := by decide +kernel
theorem dX12_says_148 : decode cX12_says 148 = .ok (.iload_n 3, 1) := by decide +kernel
theorem dX12_says_149 : decode cX12_says 149 = .ok (.iconst 1, 1) := by decide +kernel
theorem dX12_says_150 : decode cX12_says 150 = .ok (.isub, 1) := by decide +kernel
theorem dX12_says_151 : decode cX12_says 151 = .ok (.aload_n 0, 1) := by decide +kernel
theorem dX12_says_152 : decode cX12_says 152 = .ok (.getfield 132, 3) := by decide +kernel
theorem dX12_says_155 : decode cX12_says 155 = .ok (.iload_n 3, 1) := by decide +kernel
theorem dX12_says_156 : decode cX12_says 156 = .ok (.iconst 1, 1) := by decide +kernel
theorem dX12_says_157 : decode cX12_says 157 = .ok (.isub, 1) := by decide +kernel
theorem dX12_says_158 : decode cX12_says 158 = .ok (.iaload, 1) := by decide +kernel
theorem dX12_says_159 : decode cX12_says 159 = .ok (.ineg, 1) := by decide +kernel
theorem dX12_says_160 : decode cX12_says 160 = .ok (.iastore, 1) := by decide +kernel
theorem dX12_says_161 : decode cX12_says 161 = .ok (.goto 33, 3) := by decide +kernel
theorem dX12_says_164 : decode cX12_says 164 = .ok (.iinc 3 (-1), 3) := by decide +kernel
theorem dX12_says_167 : decode cX12_says 167 = .ok (.aload_n 0, 1) := by decide +kernel
theorem dX12_says_168 : decode cX12_says 168 = .ok (.getfield 132, 3) := by decide +kernel
theorem dX12_says_171 : decode cX12_says 171 = .ok (.iload_n 3, 1) := by decide +kernel
theorem dX12_says_172 : decode cX12_says 172 = .ok (.iconst 1, 1) := by decide +kernel
theorem dX12_says_173 : decode cX12_says 173 = .ok (.isub, 1) := by decide +kernel
theorem dX12_says_174 : decode cX12_says 174 = .ok (.iload 5, 2) := by decide +kernel
theorem dX12_says_176 : decode cX12_says 176 = .ok (.aload_n 0, 1) := by decide +kernel
theorem dX12_says_177 : decode cX12_says 177 = .ok (.getfield 132, 3) := by decide +kernel
theorem dX12_says_180 : decode cX12_says 180 = .ok (.iload_n 3, 1) := by decide +kernel
theorem dX12_says_181 : decode cX12_says 181 = .ok (.iconst 1, 1) := by decide +kernel
theorem dX12_says_182 : decode cX12_says 182 = .ok (.isub, 1) := by decide +kernel
theorem dX12_says_183 : decode cX12_says 183 = .ok (.iaload, 1) := by decide +kernel
theorem dX12_says_184 : decode cX12_says 184 = .ok (.aload_n 0, 1) := by decide +kernel
theorem dX12_says_185 : decode cX12_says 185 = .ok (.getfield 132, 3) := by decide +kernel
theorem dX12_says_188 : decode cX12_says 188 = .ok (.iload_n 3, 1) := by decide +kernel
theorem dX12_says_189 : decode cX12_says 189 = .ok (.iaload, 1) := by decide +kernel
theorem dX12_says_190 : decode cX12_says 190 = .ok (.invokestatic 267, 3) := by decide +kernel
theorem dX12_says_193 : decode cX12_says 193 = .ok (.iastore, 1) := by decide +kernel
theorem dX12_says_194 : decode cX12_says 194 = .ok (.iinc 4 1, 3) := by decide +kernel
theorem dX12_says_197 : decode cX12_says 197 = .ok (.goto (-180), 3) := by decide +kernel
theorem dX12_says_200 : decode cX12_says 200 = .ok (.aload_n 0, 1) := by decide +kernel
theorem dX12_says_201 : decode cX12_says 201 = .ok (.getfield 132, 3) := by decide +kernel
theorem dX12_says_204 : decode cX12_says 204 = .ok (.iconst 0, 1) := by decide +kernel
theorem dX12_says_205 : decode cX12_says 205 = .ok (.iaload, 1) := by decide +kernel
theorem dX12_says_206 : decode cX12_says 206 = .ok (.ifCond .ge 7, 3) := by decide +kernel
theorem dX12_says_209 : decode cX12_says 209 = .ok (.iconst 0, 1) := by decide +kernel
theorem dX12_says_210 : decode cX12_says 210 = .ok (.goto 23, 3) := by decide +kernel
theorem dX12_says_213 : decode cX12_says 213 = .ok (.aload_n 0, 1) := by decide +kernel
theorem dX12_says_214 : decode cX12_says 214 = .ok (.getfield 132, 3) := by decide +kernel
theorem dX12_says_217 : decode cX12_says 217 = .ok (.iconst 0, 1) := by decide +kernel
theorem dX12_says_218 : decode cX12_says 218 = .ok (.iaload, 1) := by decide +kernel
theorem dX12_says_219 : decode cX12_says 219 = .ok (.iload_n 2, 1) := by decide +kernel
theorem dX12_says_220 : decode cX12_says 220 = .ok (.if_icmp .le 7, 3) := by decide +kernel
theorem dX12_says_223 : decode cX12_says 223 = .ok (.iload_n 2, 1) := by decide +kernel
theorem dX12_says_224 : decode cX12_says 224 = .ok (.goto 9, 3) := by decide +kernel
theorem dX12_says_227 : decode cX12_says 227 = .ok (.aload_n 0, 1) := by decide +kernel
theorem dX12_says_228 : decode cX12_says 228 = .ok (.getfield 132, 3) := by decide +kernel
theorem dX12_says_231 : decode cX12_says 231 = .ok (.iconst 0, 1) := by decide +kernel
theorem dX12_says_232 : decode cX12_says 232 = .ok (.iaload, 1) := by decide +kernel
theorem dX12_says_233 : decode cX12_says 233 = .ok (.ireturn, 1) := by decide +kernel
theorem dX12_force_0 : decode cX12_force 0 = .ok (.iload_n 1, 1) := by decide +kernel
theorem dX12_force_1 : decode cX12_force 1 = .ok (.iconst 0, 1) := by decide +kernel
theorem dX12_force_2 : decode cX12_force 2 = .ok (.aload_n 0, 1) := by decide +kernel
theorem dX12_force_3 : decode cX12_force 3 = .ok (.getfield 61, 3) := by decide +kernel
theorem dX12_force_6 : decode cX12_force 6 = .ok (.iconst 1, 1) := by decide +kernel
theorem dX12_force_7 : decode cX12_force 7 = .ok (.isub, 1) := by decide +kernel
theorem dX12_force_8 : decode cX12_force 8 = .ok (.invokestatic 159, 3) := by decide +kernel
theorem dX12_force_11 : decode cX12_force 11 = .ok (.ifCond .ne 6, 3) := by decide +kernel
theorem dX12_force_14 : decode cX12_force 14 = .ok (.bipush (-2), 2) := by decide +kernel
theorem dX12_force_16 : decode cX12_force 16 = .ok (.ireturn, 1) := by decide +kernel
theorem dX12_force_17 : decode cX12_force 17 = .ok (.aload_n 0, 1) := by decide +kernel
theorem dX12_force_18 : decode cX12_force 18 = .ok (.getfield 203, 3) := by decide +kernel
theorem dX12_force_21 : decode cX12_force 21 = .ok (.istore_n 2, 1) := by decide +kernel
theorem dX12_force_22 : decode cX12_force 22 = .ok (.aload_n 0, 1) := by decide +kernel
theorem dX12_force_23 : decode cX12_force 23 = .ok (.iload_n 1, 1) := by decide +kernel
theorem dX12_force_24 : decode cX12_force 24 = .ok (.putfield 203, 3) := by decide +kernel
theorem dX12_force_27 : decode cX12_force 27 = .ok (.iload_n 2, 1) := by decide +kernel
theorem dX12_force_28 : decode cX12_force 28 = .ok (.ireturn, 1) := by decide +kernel
theorem dX12_beside_0 : decode cX12_beside 0 = .ok (.aload_n 0, 1) := by decide +kernel
theorem dX12_beside_1 : decode cX12_beside 1 = .ok (.iload_n 1, 1) := by decide +kernel
theorem dX12_beside_2 : decode cX12_beside 2 = .ok (.invokevirtual 185, 3) := by decide +kernel
theorem dX12_beside_5 : decode cX12_beside 5 = .ok (.istore 6, 2) := by decide +kernel
theorem dX12_beside_7 : decode cX12_beside 7 = .ok (.aload_n 0, 1) := by decide +kernel
theorem dX12_beside_8 : decode cX12_beside 8 = .ok (.getfield 37, 3) := by decide +kernel
theorem dX12_beside_11 : decode cX12_beside 11 = .ok (.iload_n 3, 1) := by decide +kernel
theorem dX12_beside_12 : decode cX12_beside 12 = .ok (.iaload, 1) := by decide +kernel
theorem dX12_beside_13 : decode cX12_beside 13 = .ok (.iload 6, 2) := by decide +kernel
theorem dX12_beside_15 : decode cX12_beside 15 = .ok (.imul, 1) := by decide +kernel
theorem dX12_beside_16 : decode cX12_beside 16 = .ok (.aload_n 0, 1) := by decide +kernel
theorem dX12_beside_17 : decode cX12_beside 17 = .ok (.iload_n 1, 1) := by decide +kernel
theorem dX12_beside_18 : decode cX12_beside 18 = .ok (.iload_n 2, 1) := by decide +kernel
theorem dX12_beside_19 : decode cX12_beside 19 = .ok (.invokevirtual 182, 3) := by decide +kernel
theorem dX12_beside_22 : decode cX12_beside 22 = .ok (.aload_n 0, 1) := by decide +kernel
theorem dX12_beside_23 : decode cX12_beside 23 = .ok (.getfield 37, 3) := by decide +kernel
theorem dX12_beside_26 : decode cX12_beside 26 = .ok (.iload_n 3, 1) := by decide +kernel
theorem dX12_beside_27 : decode cX12_beside 27 = .ok (.iaload, 1) := by decide +kernel
theorem dX12_beside_28 : decode cX12_beside 28 = .ok (.isub, 1) := by decide +kernel
theorem dX12_beside_29 : decode cX12_beside 29 = .ok (.iload 5, 2) := by decide +kernel
theorem dX12_beside_31 : decode cX12_beside 31 = .ok (.imul, 1) := by decide +kernel
theorem dX12_beside_32 : decode cX12_beside 32 = .ok (.iadd, 1) := by decide +kernel
theorem dX12_beside_33 : decode cX12_beside 33 = .ok (.iload 4, 2) := by decide +kernel
theorem dX12_beside_35 : decode cX12_beside 35 = .ok (.iload 6, 2) := by decide +kernel
theorem dX12_beside_37 : decode cX12_beside 37 = .ok (.imul, 1) := by decide +kernel
theorem dX12_beside_38 : decode cX12_beside 38 = .ok (.isub, 1) := by decide +kernel
theorem dX12_beside_39 : decode cX12_beside 39 = .ok (.istore 7, 2) := by decide +kernel
theorem dX12_beside_41 : decode cX12_beside 41 = .ok (.iload 7, 2) := by decide +kernel
theorem dX12_beside_43 : decode cX12_beside 43 = .ok (.ifCond .ge 9, 3) := by decide +kernel
theorem dX12_beside_46 : decode cX12_beside 46 = .ok (.iload 7, 2) := by decide +kernel
theorem dX12_beside_48 : decode cX12_beside 48 = .ok (.ineg, 1) := by decide +kernel
theorem dX12_beside_49 : decode cX12_beside 49 = .ok (.goto 5, 3) := by decide +kernel
theorem dX12_beside_52 : decode cX12_beside 52 = .ok (.iload 7, 2) := by decide +kernel
theorem dX12_beside_54 : decode cX12_beside 54 = .ok (.ireturn, 1) := by decide +kernel
theorem dX12_isAsHigh_0 : decode cX12_isAsHigh 0 = .ok (.aload_n 0, 1) := by decide +kernel
theorem dX12_isAsHigh_1 : decode cX12_isAsHigh 1 = .ok (.iload_n 1, 1) := by decide +kernel
theorem dX12_isAsHigh_2 : decode cX12_isAsHigh 2 = .ok (.invokevirtual 185, 3) := by decide +kernel
theorem dX12_isAsHigh_5 : decode cX12_isAsHigh 5 = .ok (.istore 6, 2) := by decide +kernel
theorem dX12_isAsHigh_7 : decode cX12_isAsHigh 7 = .ok (.iload 4, 2) := by decide +kernel
theorem dX12_isAsHigh_9 : decode cX12_isAsHigh 9 = .ok (.iload 6, 2) := by decide +kernel
theorem dX12_isAsHigh_11 : decode cX12_isAsHigh 11 = .ok (.imul, 1) := by decide +kernel
theorem dX12_isAsHigh_12 : decode cX12_isAsHigh 12 = .ok (.aload_n 0, 1) := by decide +kernel
theorem dX12_isAsHigh_13 : decode cX12_isAsHigh 13 = .ok (.getfield 40, 3) := by decide +kernel
theorem dX12_isAsHigh_16 : decode cX12_isAsHigh 16 = .ok (.iload_n 3, 1) := by decide +kernel
theorem dX12_isAsHigh_17 : decode cX12_isAsHigh 17 = .ok (.iaload, 1) := by decide +kernel
theorem dX12_isAsHigh_18 : decode cX12_isAsHigh 18 = .ok (.iload 6, 2) := by decide +kernel
theorem dX12_isAsHigh_20 : decode cX12_isAsHigh 20 = .ok (.imul, 1) := by decide +kernel
theorem dX12_isAsHigh_21 : decode cX12_isAsHigh 21 = .ok (.aload_n 0, 1) := by decide +kernel
theorem dX12_isAsHigh_22 : decode cX12_isAsHigh 22 = .ok (.iload_n 1, 1) := by decide +kernel
theorem dX12_isAsHigh_23 : decode cX12_isAsHigh 23 = .ok (.iload_n 2, 1) := by decide +kernel
theorem dX12_isAsHigh_24 : decode cX12_isAsHigh 24 = .ok (.invokevirtual 188, 3) := by decide +kernel
theorem dX12_isAsHigh_27 : decode cX12_isAsHigh 27 = .ok (.aload_n 0, 1) := by decide +kernel
theorem dX12_isAsHigh_28 : decode cX12_isAsHigh 28 = .ok (.getfield 40, 3) := by decide +kernel
theorem dX12_isAsHigh_31 : decode cX12_isAsHigh 31 = .ok (.iload_n 3, 1) := by decide +kernel
theorem dX12_isAsHigh_32 : decode cX12_isAsHigh 32 = .ok (.iaload, 1) := by decide +kernel
theorem dX12_isAsHigh_33 : decode cX12_isAsHigh 33 = .ok (.isub, 1) := by decide +kernel
theorem dX12_isAsHigh_34 : decode cX12_isAsHigh 34 = .ok (.iload 5, 2) := by decide +kernel
theorem dX12_isAsHigh_36 : decode cX12_isAsHigh 36 = .ok (.imul, 1) := by decide +kernel
theorem dX12_isAsHigh_37 : decode cX12_isAsHigh 37 = .ok (.iadd, 1) := by decide +kernel
theorem dX12_isAsHigh_38 : decode cX12_isAsHigh 38 = .ok (.if_icmp .lt 7, 3) := by decide +kernel
theorem dX12_isAsHigh_41 : decode cX12_isAsHigh 41 = .ok (.iconst 1, 1) := by decide +kernel
theorem dX12_isAsHigh_42 : decode cX12_isAsHigh 42 = .ok (.goto 4, 3) := by decide +kernel
theorem dX12_isAsHigh_45 : decode cX12_isAsHigh 45 = .ok (.iconst 0, 1) := by decide +kernel
theorem dX12_isAsHigh_46 : decode cX12_isAsHigh 46 = .ok (.ireturn, 1) := by decide +kernel
theorem dX12_isNear_0 : decode cX12_isNear 0 = .ok (.aload_n 0, 1) := by decide +kernel
theorem dX12_isNear_1 : decode cX12_isNear 1 = .ok (.iload_n 1, 1) := by decide +kernel
theorem dX12_isNear_2 : decode cX12_isNear 2 = .ok (.invokevirtual 194, 3) := by decide +kernel
theorem dX12_isNear_5 : decode cX12_isNear 5 = .ok (.ifCond .eq 45, 3) := by decide +kernel
theorem dX12_isNear_8 : decode cX12_isNear 8 = .ok (.aload_n 0, 1) := by decide +kernel
theorem dX12_isNear_9 : decode cX12_isNear 9 = .ok (.iload 4, 2) := by decide +kernel
theorem dX12_isNear_11 : decode cX12_isNear 11 = .ok (.invokevirtual 194, 3) := by decide +kernel
theorem dX12_isNear_14 : decode cX12_isNear 14 = .ok (.ifCond .eq 36, 3) := by decide +kernel
theorem dX12_isNear_17 : decode cX12_isNear 17 = .ok (.aload_n 0, 1) := by decide +kernel
theorem dX12_isNear_18 : decode cX12_isNear 18 = .ok (.iload_n 1, 1) := by decide +kernel
theorem dX12_isNear_19 : decode cX12_isNear 19 = .ok (.iload_n 2, 1) := by decide +kernel
theorem dX12_isNear_20 : decode cX12_isNear 20 = .ok (.iload_n 3, 1) := by decide +kernel
theorem dX12_isNear_21 : decode cX12_isNear 21 = .ok (.aload_n 0, 1) := by decide +kernel
theorem dX12_isNear_22 : decode cX12_isNear 22 = .ok (.iload 4, 2) := by decide +kernel
theorem dX12_isNear_24 : decode cX12_isNear 24 = .ok (.iload 5, 2) := by decide +kernel
theorem dX12_isNear_26 : decode cX12_isNear 26 = .ok (.invokevirtual 182, 3) := by decide +kernel
theorem dX12_isNear_29 : decode cX12_isNear 29 = .ok (.aload_n 0, 1) := by decide +kernel
theorem dX12_isNear_30 : decode cX12_isNear 30 = .ok (.iload 4, 2) := by decide +kernel
theorem dX12_isNear_32 : decode cX12_isNear 32 = .ok (.invokevirtual 185, 3) := by decide +kernel
theorem dX12_isNear_35 : decode cX12_isNear 35 = .ok (.invokevirtual 271, 3) := by decide +kernel
theorem dX12_isNear_38 : decode cX12_isNear 38 = .ok (.aload_n 0, 1) := by decide +kernel
theorem dX12_isNear_39 : decode cX12_isNear 39 = .ok (.iload_n 1, 1) := by decide +kernel
theorem dX12_isNear_40 : decode cX12_isNear 40 = .ok (.invokevirtual 185, 3) := by decide +kernel
theorem dX12_isNear_43 : decode cX12_isNear 43 = .ok (.if_icmp .gt 7, 3) := by decide +kernel
theorem dX12_isNear_46 : decode cX12_isNear 46 = .ok (.iconst 1, 1) := by decide +kernel
theorem dX12_isNear_47 : decode cX12_isNear 47 = .ok (.goto 4, 3) := by decide +kernel
theorem dX12_isNear_50 : decode cX12_isNear 50 = .ok (.iconst 0, 1) := by decide +kernel
theorem dX12_isNear_51 : decode cX12_isNear 51 = .ok (.ireturn, 1) := by decide +kernel
theorem dX12_postBefore_0 : decode cX12_postBefore 0 = .ok (.iconst 0, 1) := by decide +kernel
theorem dX12_postBefore_1 : decode cX12_postBefore 1 = .ok (.istore 4, 2) := by decide +kernel
theorem dX12_postBefore_3 : decode cX12_postBefore 3 = .ok (.iload 4, 2) := by decide +kernel
theorem dX12_postBefore_5 : decode cX12_postBefore 5 = .ok (.aload_n 0, 1) := by decide +kernel
theorem dX12_postBefore_6 : decode cX12_postBefore 6 = .ok (.getfield 200, 3) := by decide +kernel
theorem dX12_postBefore_9 : decode cX12_postBefore 9 = .ok (.if_icmp .ge 56, 3) := by decide +kernel
theorem dX12_postBefore_12 : decode cX12_postBefore 12 = .ok (.aload_n 0, 1) := by decide +kernel
theorem dX12_postBefore_13 : decode cX12_postBefore 13 = .ok (.getfield 49, 3) := by decide +kernel
theorem dX12_postBefore_16 : decode cX12_postBefore 16 = .ok (.iload 4, 2) := by decide +kernel
theorem dX12_postBefore_18 : decode cX12_postBefore 18 = .ok (.iaload, 1) := by decide +kernel
theorem dX12_postBefore_19 : decode cX12_postBefore 19 = .ok (.aload_n 0, 1) := by decide +kernel
theorem dX12_postBefore_20 : decode cX12_postBefore 20 = .ok (.iload_n 1, 1) := by decide +kernel
theorem dX12_postBefore_21 : decode cX12_postBefore 21 = .ok (.invokevirtual 185, 3) := by decide +kernel
theorem dX12_postBefore_24 : decode cX12_postBefore 24 = .ok (.if_icmp .ge 35, 3) := by decide +kernel
theorem dX12_postBefore_27 : decode cX12_postBefore 27 = .ok (.aload_n 0, 1) := by decide +kernel
theorem dX12_postBefore_28 : decode cX12_postBefore 28 = .ok (.iload_n 1, 1) := by decide +kernel
theorem dX12_postBefore_29 : decode cX12_postBefore 29 = .ok (.iload_n 2, 1) := by decide +kernel
theorem dX12_postBefore_30 : decode cX12_postBefore 30 = .ok (.iload_n 3, 1) := by decide +kernel
theorem dX12_postBefore_31 : decode cX12_postBefore 31 = .ok (.aload_n 0, 1) := by decide +kernel
theorem dX12_postBefore_32 : decode cX12_postBefore 32 = .ok (.getfield 46, 3) := by decide +kernel
theorem dX12_postBefore_35 : decode cX12_postBefore 35 = .ok (.iload 4, 2) := by decide +kernel
theorem dX12_postBefore_37 : decode cX12_postBefore 37 = .ok (.iaload, 1) := by decide +kernel
theorem dX12_postBefore_38 : decode cX12_postBefore 38 = .ok (.aload_n 0, 1) := by decide +kernel
theorem dX12_postBefore_39 : decode cX12_postBefore 39 = .ok (.getfield 49, 3) := by decide +kernel
theorem dX12_postBefore_42 : decode cX12_postBefore 42 = .ok (.iload 4, 2) := by decide +kernel
theorem dX12_postBefore_44 : decode cX12_postBefore 44 = .ok (.iaload, 1) := by decide +kernel
theorem dX12_postBefore_45 : decode cX12_postBefore 45 = .ok (.invokevirtual 271, 3) := by decide +kernel
theorem dX12_postBefore_48 : decode cX12_postBefore 48 = .ok (.aload_n 0, 1) := by decide +kernel
theorem dX12_postBefore_49 : decode cX12_postBefore 49 = .ok (.iload_n 1, 1) := by decide +kernel
theorem dX12_postBefore_50 : decode cX12_postBefore 50 = .ok (.invokevirtual 185, 3) := by decide +kernel
theorem dX12_postBefore_53 : decode cX12_postBefore 53 = .ok (.if_icmp .ge 6, 3) := by decide +kernel
theorem dX12_postBefore_56 : decode cX12_postBefore 56 = .ok (.iload 4, 2) := by decide +kernel
theorem dX12_postBefore_58 : decode cX12_postBefore 58 = .ok (.ireturn, 1) := by decide +kernel
theorem dX12_postBefore_59 : decode cX12_postBefore 59 = .ok (.iinc 4 1, 3) := by decide +kernel
theorem dX12_postBefore_62 : decode cX12_postBefore 62 = .ok (.goto (-59), 3) := by decide +kernel
theorem dX12_postBefore_65 : decode cX12_postBefore 65 = .ok (.iconst (-1), 1) := by decide +kernel
theorem dX12_postBefore_66 : decode cX12_postBefore 66 = .ok (.ireturn, 1) := by decide +kernel
theorem dX12_hiderOf_0 : decode cX12_hiderOf 0 = .ok (.iconst 0, 1) := by decide +kernel
theorem dX12_hiderOf_1 : decode cX12_hiderOf 1 = .ok (.istore 4, 2) := by decide +kernel
theorem dX12_hiderOf_3 : decode cX12_hiderOf 3 = .ok (.iload 4, 2) := by decide +kernel
theorem dX12_hiderOf_5 : decode cX12_hiderOf 5 = .ok (.iload_n 1, 1) := by decide +kernel
theorem dX12_hiderOf_6 : decode cX12_hiderOf 6 = .ok (.if_icmp .ge 77, 3) := by decide +kernel
theorem dX12_hiderOf_9 : decode cX12_hiderOf 9 = .ok (.iconst 0, 1) := by decide +kernel
theorem dX12_hiderOf_10 : decode cX12_hiderOf 10 = .ok (.istore 5, 2) := by decide +kernel
theorem dX12_hiderOf_12 : decode cX12_hiderOf 12 = .ok (.iload 5, 2) := by decide +kernel
theorem dX12_hiderOf_14 : decode cX12_hiderOf 14 = .ok (.aload_n 0, 1) := by decide +kernel
theorem dX12_hiderOf_15 : decode cX12_hiderOf 15 = .ok (.getfield 22, 3) := by decide +kernel
theorem dX12_hiderOf_18 : decode cX12_hiderOf 18 = .ok (.iload 4, 2) := by decide +kernel
theorem dX12_hiderOf_20 : decode cX12_hiderOf 20 = .ok (.iaload, 1) := by decide +kernel
theorem dX12_hiderOf_21 : decode cX12_hiderOf 21 = .ok (.if_icmp .ge 56, 3) := by decide +kernel
theorem dX12_hiderOf_24 : decode cX12_hiderOf 24 = .ok (.aload_n 0, 1) := by decide +kernel
theorem dX12_hiderOf_25 : decode cX12_hiderOf 25 = .ok (.iload_n 1, 1) := by decide +kernel
theorem dX12_hiderOf_26 : decode cX12_hiderOf 26 = .ok (.iload_n 2, 1) := by decide +kernel
theorem dX12_hiderOf_27 : decode cX12_hiderOf 27 = .ok (.iload_n 3, 1) := by decide +kernel
theorem dX12_hiderOf_28 : decode cX12_hiderOf 28 = .ok (.iload 4, 2) := by decide +kernel
theorem dX12_hiderOf_30 : decode cX12_hiderOf 30 = .ok (.iload 5, 2) := by decide +kernel
theorem dX12_hiderOf_32 : decode cX12_hiderOf 32 = .ok (.invokevirtual 275, 3) := by decide +kernel
theorem dX12_hiderOf_35 : decode cX12_hiderOf 35 = .ok (.ifCond .eq 36, 3) := by decide +kernel
theorem dX12_hiderOf_38 : decode cX12_hiderOf 38 = .ok (.aload_n 0, 1) := by decide +kernel
theorem dX12_hiderOf_39 : decode cX12_hiderOf 39 = .ok (.iload_n 1, 1) := by decide +kernel
theorem dX12_hiderOf_40 : decode cX12_hiderOf 40 = .ok (.iload_n 2, 1) := by decide +kernel
theorem dX12_hiderOf_41 : decode cX12_hiderOf 41 = .ok (.iload_n 3, 1) := by decide +kernel
theorem dX12_hiderOf_42 : decode cX12_hiderOf 42 = .ok (.aload_n 0, 1) := by decide +kernel
theorem dX12_hiderOf_43 : decode cX12_hiderOf 43 = .ok (.iload 4, 2) := by decide +kernel
theorem dX12_hiderOf_45 : decode cX12_hiderOf 45 = .ok (.iload 5, 2) := by decide +kernel
theorem dX12_hiderOf_47 : decode cX12_hiderOf 47 = .ok (.invokevirtual 191, 3) := by decide +kernel
theorem dX12_hiderOf_50 : decode cX12_hiderOf 50 = .ok (.aload_n 0, 1) := by decide +kernel
theorem dX12_hiderOf_51 : decode cX12_hiderOf 51 = .ok (.iload 4, 2) := by decide +kernel
theorem dX12_hiderOf_53 : decode cX12_hiderOf 53 = .ok (.invokevirtual 185, 3) := by decide +kernel
theorem dX12_hiderOf_56 : decode cX12_hiderOf 56 = .ok (.invokevirtual 279, 3) := by decide +kernel
theorem dX12_hiderOf_59 : decode cX12_hiderOf 59 = .ok (.ifCond .eq 12, 3) := by decide +kernel
theorem dX12_hiderOf_62 : decode cX12_hiderOf 62 = .ok (.bipush 10, 2) := by decide +kernel
theorem dX12_hiderOf_64 : decode cX12_hiderOf 64 = .ok (.iload 4, 2) := by decide +kernel
theorem dX12_hiderOf_66 : decode cX12_hiderOf 66 = .ok (.imul, 1) := by decide +kernel
theorem dX12_hiderOf_67 : decode cX12_hiderOf 67 = .ok (.iload 5, 2) := by decide +kernel
theorem dX12_hiderOf_69 : decode cX12_hiderOf 69 = .ok (.iadd, 1) := by decide +kernel
theorem dX12_hiderOf_70 : decode cX12_hiderOf 70 = .ok (.ireturn, 1) := by decide +kernel
theorem dX12_hiderOf_71 : decode cX12_hiderOf 71 = .ok (.iinc 5 1, 3) := by decide +kernel
theorem dX12_hiderOf_74 : decode cX12_hiderOf 74 = .ok (.goto (-62), 3) := by decide +kernel
theorem dX12_hiderOf_77 : decode cX12_hiderOf 77 = .ok (.iinc 4 1, 3) := by decide +kernel
theorem dX12_hiderOf_80 : decode cX12_hiderOf 80 = .ok (.goto (-77), 3) := by decide +kernel
theorem dX12_hiderOf_83 : decode cX12_hiderOf 83 = .ok (.aload_n 0, 1) := by decide +kernel
theorem dX12_hiderOf_84 : decode cX12_hiderOf 84 = .ok (.iload_n 1, 1) := by decide +kernel
theorem dX12_hiderOf_85 : decode cX12_hiderOf 85 = .ok (.iload_n 2, 1) := by decide +kernel
theorem dX12_hiderOf_86 : decode cX12_hiderOf 86 = .ok (.iload_n 3, 1) := by decide +kernel
theorem dX12_hiderOf_87 : decode cX12_hiderOf 87 = .ok (.invokevirtual 282, 3) := by decide +kernel
theorem dX12_hiderOf_90 : decode cX12_hiderOf 90 = .ok (.istore 4, 2) := by decide +kernel
theorem dX12_hiderOf_92 : decode cX12_hiderOf 92 = .ok (.iload 4, 2) := by decide +kernel
theorem dX12_hiderOf_94 : decode cX12_hiderOf 94 = .ok (.iconst (-1), 1) := by decide +kernel
theorem dX12_hiderOf_95 : decode cX12_hiderOf 95 = .ok (.if_icmp .ne 7, 3) := by decide +kernel
theorem dX12_hiderOf_98 : decode cX12_hiderOf 98 = .ok (.iconst (-1), 1) := by decide +kernel
theorem dX12_hiderOf_99 : decode cX12_hiderOf 99 = .ok (.goto 8, 3) := by decide +kernel
theorem dX12_hiderOf_102 : decode cX12_hiderOf 102 = .ok (.bipush 100, 2) := by decide +kernel
theorem dX12_hiderOf_104 : decode cX12_hiderOf 104 = .ok (.iload 4, 2) := by decide +kernel
theorem dX12_hiderOf_106 : decode cX12_hiderOf 106 = .ok (.iadd, 1) := by decide +kernel
theorem dX12_hiderOf_107 : decode cX12_hiderOf 107 = .ok (.ireturn, 1) := by decide +kernel
theorem dX12_hidden_0 : decode cX12_hidden 0 = .ok (.aload_n 0, 1) := by decide +kernel
theorem dX12_hidden_1 : decode cX12_hidden 1 = .ok (.iload_n 1, 1) := by decide +kernel
theorem dX12_hidden_2 : decode cX12_hidden 2 = .ok (.iload_n 2, 1) := by decide +kernel
theorem dX12_hidden_3 : decode cX12_hidden 3 = .ok (.invokevirtual 167, 3) := by decide +kernel
theorem dX12_hidden_6 : decode cX12_hidden 6 = .ok (.ifCond .ne 8, 3) := by decide +kernel
theorem dX12_hidden_9 : decode cX12_hidden 9 = .ok (.bipush (-5), 2) := by decide +kernel
theorem dX12_hidden_11 : decode cX12_hidden 11 = .ok (.goto 29, 3) := by decide +kernel
theorem dX12_hidden_14 : decode cX12_hidden 14 = .ok (.iload_n 3, 1) := by decide +kernel
theorem dX12_hidden_15 : decode cX12_hidden 15 = .ok (.iconst 0, 1) := by decide +kernel
theorem dX12_hidden_16 : decode cX12_hidden 16 = .ok (.aload_n 0, 1) := by decide +kernel
theorem dX12_hidden_17 : decode cX12_hidden 17 = .ok (.getfield 197, 3) := by decide +kernel
theorem dX12_hidden_20 : decode cX12_hidden 20 = .ok (.iconst 1, 1) := by decide +kernel
theorem dX12_hidden_21 : decode cX12_hidden 21 = .ok (.isub, 1) := by decide +kernel
theorem dX12_hidden_22 : decode cX12_hidden 22 = .ok (.invokestatic 159, 3) := by decide +kernel
theorem dX12_hidden_25 : decode cX12_hidden 25 = .ok (.ifCond .eq 13, 3) := by decide +kernel
theorem dX12_hidden_28 : decode cX12_hidden 28 = .ok (.aload_n 0, 1) := by decide +kernel
theorem dX12_hidden_29 : decode cX12_hidden 29 = .ok (.iload_n 1, 1) := by decide +kernel
theorem dX12_hidden_30 : decode cX12_hidden 30 = .ok (.iload_n 2, 1) := by decide +kernel
theorem dX12_hidden_31 : decode cX12_hidden 31 = .ok (.iload_n 3, 1) := by decide +kernel
theorem dX12_hidden_32 : decode cX12_hidden 32 = .ok (.invokevirtual 285, 3) := by decide +kernel
theorem dX12_hidden_35 : decode cX12_hidden 35 = .ok (.goto 5, 3) := by decide +kernel
theorem dX12_hidden_38 : decode cX12_hidden 38 = .ok (.bipush (-7), 2) := by decide +kernel
theorem dX12_hidden_40 : decode cX12_hidden 40 = .ok (.ireturn, 1) := by decide +kernel
theorem dX12_seesOf_0 : decode cX12_seesOf 0 = .ok (.iconst 0, 1) := by decide +kernel
theorem dX12_seesOf_1 : decode cX12_seesOf 1 = .ok (.istore_n 3, 1) := by decide +kernel
theorem dX12_seesOf_2 : decode cX12_seesOf 2 = .ok (.iconst 0, 1) := by decide +kernel
theorem dX12_seesOf_3 : decode cX12_seesOf 3 = .ok (.istore 4, 2) := by decide +kernel
theorem dX12_seesOf_5 : decode cX12_seesOf 5 = .ok (.iload 4, 2) := by decide +kernel
theorem dX12_seesOf_7 : decode cX12_seesOf 7 = .ok (.aload_n 0, 1) := by decide +kernel
theorem dX12_seesOf_8 : decode cX12_seesOf 8 = .ok (.getfield 197, 3) := by decide +kernel
theorem dX12_seesOf_11 : decode cX12_seesOf 11 = .ok (.if_icmp .ge 32, 3) := by decide +kernel
theorem dX12_seesOf_14 : decode cX12_seesOf 14 = .ok (.iload_n 3, 1) := by decide +kernel
theorem dX12_seesOf_15 : decode cX12_seesOf 15 = .ok (.aload_n 0, 1) := by decide +kernel
theorem dX12_seesOf_16 : decode cX12_seesOf 16 = .ok (.iload_n 1, 1) := by decide +kernel
theorem dX12_seesOf_17 : decode cX12_seesOf 17 = .ok (.iload_n 2, 1) := by decide +kernel
theorem dX12_seesOf_18 : decode cX12_seesOf 18 = .ok (.iload 4, 2) := by decide +kernel
theorem dX12_seesOf_20 : decode cX12_seesOf 20 = .ok (.invokevirtual 285, 3) := by decide +kernel
theorem dX12_seesOf_23 : decode cX12_seesOf 23 = .ok (.iconst (-1), 1) := by decide +kernel
theorem dX12_seesOf_24 : decode cX12_seesOf 24 = .ok (.if_icmp .ne 10, 3) := by decide +kernel
theorem dX12_seesOf_27 : decode cX12_seesOf 27 = .ok (.iconst 1, 1) := by decide +kernel
theorem dX12_seesOf_28 : decode cX12_seesOf 28 = .ok (.iload 4, 2) := by decide +kernel
theorem dX12_seesOf_30 : decode cX12_seesOf 30 = .ok (.ishl, 1) := by decide +kernel
theorem dX12_seesOf_31 : decode cX12_seesOf 31 = .ok (.goto 4, 3) := by decide +kernel
theorem dX12_seesOf_34 : decode cX12_seesOf 34 = .ok (.iconst 0, 1) := by decide +kernel
theorem dX12_seesOf_35 : decode cX12_seesOf 35 = .ok (.ior, 1) := by decide +kernel
theorem dX12_seesOf_36 : decode cX12_seesOf 36 = .ok (.istore_n 3, 1) := by decide +kernel
theorem dX12_seesOf_37 : decode cX12_seesOf 37 = .ok (.iinc 4 1, 3) := by decide +kernel
theorem dX12_seesOf_40 : decode cX12_seesOf 40 = .ok (.goto (-35), 3) := by decide +kernel
theorem dX12_seesOf_43 : decode cX12_seesOf 43 = .ok (.iload_n 3, 1) := by decide +kernel
theorem dX12_seesOf_44 : decode cX12_seesOf 44 = .ok (.ireturn, 1) := by decide +kernel
theorem dX12_sees_0 : decode cX12_sees 0 = .ok (.aload_n 0, 1) := by decide +kernel
theorem dX12_sees_1 : decode cX12_sees 1 = .ok (.iload_n 1, 1) := by decide +kernel
theorem dX12_sees_2 : decode cX12_sees 2 = .ok (.iload_n 2, 1) := by decide +kernel
theorem dX12_sees_3 : decode cX12_sees 3 = .ok (.invokevirtual 167, 3) := by decide +kernel
theorem dX12_sees_6 : decode cX12_sees 6 = .ok (.ifCond .eq 12, 3) := by decide +kernel
theorem dX12_sees_9 : decode cX12_sees 9 = .ok (.aload_n 0, 1) := by decide +kernel
theorem dX12_sees_10 : decode cX12_sees 10 = .ok (.iload_n 1, 1) := by decide +kernel
theorem dX12_sees_11 : decode cX12_sees 11 = .ok (.iload_n 2, 1) := by decide +kernel
theorem dX12_sees_12 : decode cX12_sees 12 = .ok (.invokevirtual 288, 3) := by decide +kernel
theorem dX12_sees_15 : decode cX12_sees 15 = .ok (.goto 5, 3) := by decide +kernel
theorem dX12_sees_18 : decode cX12_sees 18 = .ok (.bipush (-5), 2) := by decide +kernel
theorem dX12_sees_20 : decode cX12_sees 20 = .ok (.ireturn, 1) := by decide +kernel
theorem dX12_names_0 : decode cX12_names 0 = .ok (.aload_n 0, 1) := by decide +kernel
theorem dX12_names_1 : decode cX12_names 1 = .ok (.getfield 135, 3) := by decide +kernel
theorem dX12_names_4 : decode cX12_names 4 = .ok (.iconst 0, 1) := by decide +kernel
theorem dX12_names_5 : decode cX12_names 5 = .ok (.iload_n 1, 1) := by decide +kernel
theorem dX12_names_6 : decode cX12_names 6 = .ok (.iastore, 1) := by decide +kernel
theorem dX12_names_7 : decode cX12_names 7 = .ok (.aload_n 0, 1) := by decide +kernel
theorem dX12_names_8 : decode cX12_names 8 = .ok (.getfield 135, 3) := by decide +kernel
theorem dX12_names_11 : decode cX12_names 11 = .ok (.iconst 1, 1) := by decide +kernel
theorem dX12_names_12 : decode cX12_names 12 = .ok (.iload_n 2, 1) := by decide +kernel
theorem dX12_names_13 : decode cX12_names 13 = .ok (.iastore, 1) := by decide +kernel
theorem dX12_names_14 : decode cX12_names 14 = .ok (.aload_n 0, 1) := by decide +kernel
theorem dX12_names_15 : decode cX12_names 15 = .ok (.getfield 135, 3) := by decide +kernel
theorem dX12_names_18 : decode cX12_names 18 = .ok (.iconst 2, 1) := by decide +kernel
theorem dX12_names_19 : decode cX12_names 19 = .ok (.iload_n 3, 1) := by decide +kernel
theorem dX12_names_20 : decode cX12_names 20 = .ok (.iastore, 1) := by decide +kernel
theorem dX12_names_21 : decode cX12_names 21 = .ok (.aload_n 0, 1) := by decide +kernel
theorem dX12_names_22 : decode cX12_names 22 = .ok (.getfield 135, 3) := by decide +kernel
theorem dX12_names_25 : decode cX12_names 25 = .ok (.iconst 3, 1) := by decide +kernel
theorem dX12_names_26 : decode cX12_names 26 = .ok (.iload 4, 2) := by decide +kernel
theorem dX12_names_28 : decode cX12_names 28 = .ok (.iastore, 1) := by decide +kernel
theorem dX12_names_29 : decode cX12_names 29 = .ok (.aload_n 0, 1) := by decide +kernel
theorem dX12_names_30 : decode cX12_names 30 = .ok (.getfield 135, 3) := by decide +kernel
theorem dX12_names_33 : decode cX12_names 33 = .ok (.iconst 4, 1) := by decide +kernel
theorem dX12_names_34 : decode cX12_names 34 = .ok (.iload 5, 2) := by decide +kernel
theorem dX12_names_36 : decode cX12_names 36 = .ok (.iastore, 1) := by decide +kernel
theorem dX12_names_37 : decode cX12_names 37 = .ok (.aload_n 0, 1) := by decide +kernel
theorem dX12_names_38 : decode cX12_names 38 = .ok (.getfield 135, 3) := by decide +kernel
theorem dX12_names_41 : decode cX12_names 41 = .ok (.iconst 5, 1) := by decide +kernel
theorem dX12_names_42 : decode cX12_names 42 = .ok (.iload 6, 2) := by decide +kernel
theorem dX12_names_44 : decode cX12_names 44 = .ok (.iastore, 1) := by decide +kernel
theorem dX12_names_45 : decode cX12_names 45 = .ok (.return_, 1) := by decide +kernel
theorem dX12_likeOf_0 : decode cX12_likeOf 0 = .ok (.aload_n 0, 1) := by decide +kernel
theorem dX12_likeOf_1 : decode cX12_likeOf 1 = .ok (.aload_n 0, 1) := by decide +kernel
theorem dX12_likeOf_2 : decode cX12_likeOf 2 = .ok (.getfield 43, 3) := by decide +kernel
theorem dX12_likeOf_5 : decode cX12_likeOf 5 = .ok (.iload_n 3, 1) := by decide +kernel
theorem dX12_likeOf_6 : decode cX12_likeOf 6 = .ok (.iaload, 1) := by decide +kernel
theorem dX12_likeOf_7 : decode cX12_likeOf 7 = .ok (.aload_n 0, 1) := by decide +kernel
theorem dX12_likeOf_8 : decode cX12_likeOf 8 = .ok (.getfield 40, 3) := by decide +kernel
theorem dX12_likeOf_11 : decode cX12_likeOf 11 = .ok (.iload_n 3, 1) := by decide +kernel
theorem dX12_likeOf_12 : decode cX12_likeOf 12 = .ok (.iaload, 1) := by decide +kernel
theorem dX12_likeOf_13 : decode cX12_likeOf 13 = .ok (.iload_n 1, 1) := by decide +kernel
theorem dX12_likeOf_14 : decode cX12_likeOf 14 = .ok (.aload_n 0, 1) := by decide +kernel
theorem dX12_likeOf_15 : decode cX12_likeOf 15 = .ok (.iload_n 1, 1) := by decide +kernel
theorem dX12_likeOf_16 : decode cX12_likeOf 16 = .ok (.iload_n 2, 1) := by decide +kernel
theorem dX12_likeOf_17 : decode cX12_likeOf 17 = .ok (.invokevirtual 182, 3) := by decide +kernel
theorem dX12_likeOf_20 : decode cX12_likeOf 20 = .ok (.aload_n 0, 1) := by decide +kernel
theorem dX12_likeOf_21 : decode cX12_likeOf 21 = .ok (.iload_n 1, 1) := by decide +kernel
theorem dX12_likeOf_22 : decode cX12_likeOf 22 = .ok (.invokevirtual 171, 3) := by decide +kernel
theorem dX12_likeOf_25 : decode cX12_likeOf 25 = .ok (.aload_n 0, 1) := by decide +kernel
theorem dX12_likeOf_26 : decode cX12_likeOf 26 = .ok (.getfield 34, 3) := by decide +kernel
theorem dX12_likeOf_29 : decode cX12_likeOf 29 = .ok (.bipush 8, 2) := by decide +kernel
theorem dX12_likeOf_31 : decode cX12_likeOf 31 = .ok (.iload_n 1, 1) := by decide +kernel
theorem dX12_likeOf_32 : decode cX12_likeOf 32 = .ok (.imul, 1) := by decide +kernel
theorem dX12_likeOf_33 : decode cX12_likeOf 33 = .ok (.iload_n 2, 1) := by decide +kernel
theorem dX12_likeOf_34 : decode cX12_likeOf 34 = .ok (.iadd, 1) := by decide +kernel
theorem dX12_likeOf_35 : decode cX12_likeOf 35 = .ok (.iaload, 1) := by decide +kernel
theorem dX12_likeOf_36 : decode cX12_likeOf 36 = .ok (.invokevirtual 291, 3) := by decide +kernel
theorem dX12_likeOf_39 : decode cX12_likeOf 39 = .ok (.aload_n 0, 1) := by decide +kernel
theorem dX12_likeOf_40 : decode cX12_likeOf 40 = .ok (.iconst 0, 1) := by decide +kernel
theorem dX12_likeOf_41 : decode cX12_likeOf 41 = .ok (.bipush 99, 2) := by decide +kernel
theorem dX12_likeOf_43 : decode cX12_likeOf 43 = .ok (.invokevirtual 295, 3) := by decide +kernel
theorem dX12_likeOf_46 : decode cX12_likeOf 46 = .ok (.ireturn, 1) := by decide +kernel
theorem dX12_worthOf_0 : decode cX12_worthOf 0 = .ok (.iconst 0, 1) := by decide +kernel
theorem dX12_worthOf_1 : decode cX12_worthOf 1 = .ok (.istore_n 3, 1) := by decide +kernel
theorem dX12_worthOf_2 : decode cX12_worthOf 2 = .ok (.iconst 0, 1) := by decide +kernel
theorem dX12_worthOf_3 : decode cX12_worthOf 3 = .ok (.istore 4, 2) := by decide +kernel
theorem dX12_worthOf_5 : decode cX12_worthOf 5 = .ok (.iload 4, 2) := by decide +kernel
theorem dX12_worthOf_7 : decode cX12_worthOf 7 = .ok (.aload_n 0, 1) := by decide +kernel
theorem dX12_worthOf_8 : decode cX12_worthOf 8 = .ok (.getfield 197, 3) := by decide +kernel
theorem dX12_worthOf_11 : decode cX12_worthOf 11 = .ok (.if_icmp .ge 36, 3) := by decide +kernel
theorem dX12_worthOf_14 : decode cX12_worthOf 14 = .ok (.iload_n 3, 1) := by decide +kernel
theorem dX12_worthOf_15 : decode cX12_worthOf 15 = .ok (.aload_n 0, 1) := by decide +kernel
theorem dX12_worthOf_16 : decode cX12_worthOf 16 = .ok (.iload_n 1, 1) := by decide +kernel
theorem dX12_worthOf_17 : decode cX12_worthOf 17 = .ok (.iload_n 2, 1) := by decide +kernel
theorem dX12_worthOf_18 : decode cX12_worthOf 18 = .ok (.iload 4, 2) := by decide +kernel
theorem dX12_worthOf_20 : decode cX12_worthOf 20 = .ok (.invokevirtual 285, 3) := by decide +kernel
theorem dX12_worthOf_23 : decode cX12_worthOf 23 = .ok (.iconst (-1), 1) := by decide +kernel
theorem dX12_worthOf_24 : decode cX12_worthOf 24 = .ok (.if_icmp .ne 14, 3) := by decide +kernel
theorem dX12_worthOf_27 : decode cX12_worthOf 27 = .ok (.aload_n 0, 1) := by decide +kernel
theorem dX12_worthOf_28 : decode cX12_worthOf 28 = .ok (.iload_n 1, 1) := by decide +kernel
theorem dX12_worthOf_29 : decode cX12_worthOf 29 = .ok (.iload_n 2, 1) := by decide +kernel
theorem dX12_worthOf_30 : decode cX12_worthOf 30 = .ok (.iload 4, 2) := by decide +kernel
theorem dX12_worthOf_32 : decode cX12_worthOf 32 = .ok (.invokevirtual 298, 3) := by decide +kernel
theorem dX12_worthOf_35 : decode cX12_worthOf 35 = .ok (.goto 4, 3) := by decide +kernel
theorem dX12_worthOf_38 : decode cX12_worthOf 38 = .ok (.iconst 0, 1) := by decide +kernel
theorem dX12_worthOf_39 : decode cX12_worthOf 39 = .ok (.iadd, 1) := by decide +kernel
theorem dX12_worthOf_40 : decode cX12_worthOf 40 = .ok (.istore_n 3, 1) := by decide +kernel
theorem dX12_worthOf_41 : decode cX12_worthOf 41 = .ok (.iinc 4 1, 3) := by decide +kernel
theorem dX12_worthOf_44 : decode cX12_worthOf 44 = .ok (.goto (-39), 3) := by decide +kernel
theorem dX12_worthOf_47 : decode cX12_worthOf 47 = .ok (.iload_n 3, 1) := by decide +kernel
theorem dX12_worthOf_48 : decode cX12_worthOf 48 = .ok (.ireturn, 1) := by decide +kernel
theorem dX12_worth_0 : decode cX12_worth 0 = .ok (.aload_n 0, 1) := by decide +kernel
theorem dX12_worth_1 : decode cX12_worth 1 = .ok (.iload_n 1, 1) := by decide +kernel
theorem dX12_worth_2 : decode cX12_worth 2 = .ok (.iload_n 2, 1) := by decide +kernel
theorem dX12_worth_3 : decode cX12_worth 3 = .ok (.invokevirtual 167, 3) := by decide +kernel
theorem dX12_worth_6 : decode cX12_worth 6 = .ok (.ifCond .eq 12, 3) := by decide +kernel
theorem dX12_worth_9 : decode cX12_worth 9 = .ok (.aload_n 0, 1) := by decide +kernel
theorem dX12_worth_10 : decode cX12_worth 10 = .ok (.iload_n 1, 1) := by decide +kernel
theorem dX12_worth_11 : decode cX12_worth 11 = .ok (.iload_n 2, 1) := by decide +kernel
theorem dX12_worth_12 : decode cX12_worth 12 = .ok (.invokevirtual 301, 3) := by decide +kernel
theorem dX12_worth_15 : decode cX12_worth 15 = .ok (.goto 5, 3) := by decide +kernel
theorem dX12_worth_18 : decode cX12_worth 18 = .ok (.bipush (-5), 2) := by decide +kernel
theorem dX12_worth_20 : decode cX12_worth 20 = .ok (.ireturn, 1) := by decide +kernel
theorem dX12_priceOf_0 : decode cX12_priceOf 0 = .ok (.aload_n 0, 1) := by decide +kernel
theorem dX12_priceOf_1 : decode cX12_priceOf 1 = .ok (.iload_n 1, 1) := by decide +kernel
theorem dX12_priceOf_2 : decode cX12_priceOf 2 = .ok (.iload_n 2, 1) := by decide +kernel
theorem dX12_priceOf_3 : decode cX12_priceOf 3 = .ok (.invokevirtual 301, 3) := by decide +kernel
theorem dX12_priceOf_6 : decode cX12_priceOf 6 = .ok (.istore_n 3, 1) := by decide +kernel
theorem dX12_priceOf_7 : decode cX12_priceOf 7 = .ok (.aload_n 0, 1) := by decide +kernel
theorem dX12_priceOf_8 : decode cX12_priceOf 8 = .ok (.iload_n 3, 1) := by decide +kernel
theorem dX12_priceOf_9 : decode cX12_priceOf 9 = .ok (.iconst 0, 1) := by decide +kernel
theorem dX12_priceOf_10 : decode cX12_priceOf 10 = .ok (.iload_n 1, 1) := by decide +kernel
theorem dX12_priceOf_11 : decode cX12_priceOf 11 = .ok (.aload_n 0, 1) := by decide +kernel
theorem dX12_priceOf_12 : decode cX12_priceOf 12 = .ok (.iload_n 1, 1) := by decide +kernel
theorem dX12_priceOf_13 : decode cX12_priceOf 13 = .ok (.iload_n 2, 1) := by decide +kernel
theorem dX12_priceOf_14 : decode cX12_priceOf 14 = .ok (.invokevirtual 182, 3) := by decide +kernel
theorem dX12_priceOf_17 : decode cX12_priceOf 17 = .ok (.aload_n 0, 1) := by decide +kernel
theorem dX12_priceOf_18 : decode cX12_priceOf 18 = .ok (.iload_n 1, 1) := by decide +kernel
theorem dX12_priceOf_19 : decode cX12_priceOf 19 = .ok (.invokevirtual 171, 3) := by decide +kernel
theorem dX12_priceOf_22 : decode cX12_priceOf 22 = .ok (.aload_n 0, 1) := by decide +kernel
theorem dX12_priceOf_23 : decode cX12_priceOf 23 = .ok (.getfield 34, 3) := by decide +kernel
theorem dX12_priceOf_26 : decode cX12_priceOf 26 = .ok (.bipush 8, 2) := by decide +kernel
theorem dX12_priceOf_28 : decode cX12_priceOf 28 = .ok (.iload_n 1, 1) := by decide +kernel
theorem dX12_priceOf_29 : decode cX12_priceOf 29 = .ok (.imul, 1) := by decide +kernel
theorem dX12_priceOf_30 : decode cX12_priceOf 30 = .ok (.iload_n 2, 1) := by decide +kernel
theorem dX12_priceOf_31 : decode cX12_priceOf 31 = .ok (.iadd, 1) := by decide +kernel
theorem dX12_priceOf_32 : decode cX12_priceOf 32 = .ok (.iaload, 1) := by decide +kernel
theorem dX12_priceOf_33 : decode cX12_priceOf 33 = .ok (.invokevirtual 291, 3) := by decide +kernel
theorem dX12_priceOf_36 : decode cX12_priceOf 36 = .ok (.aload_n 0, 1) := by decide +kernel
theorem dX12_priceOf_37 : decode cX12_priceOf 37 = .ok (.iconst 1, 1) := by decide +kernel
theorem dX12_priceOf_38 : decode cX12_priceOf 38 = .ok (.sipush 999, 3) := by decide +kernel
theorem dX12_priceOf_41 : decode cX12_priceOf 41 = .ok (.invokevirtual 295, 3) := by decide +kernel
theorem dX12_priceOf_44 : decode cX12_priceOf 44 = .ok (.ireturn, 1) := by decide +kernel
theorem dX12_price_0 : decode cX12_price 0 = .ok (.aload_n 0, 1) := by decide +kernel
theorem dX12_price_1 : decode cX12_price 1 = .ok (.iload_n 1, 1) := by decide +kernel
theorem dX12_price_2 : decode cX12_price 2 = .ok (.iload_n 2, 1) := by decide +kernel
theorem dX12_price_3 : decode cX12_price 3 = .ok (.invokevirtual 167, 3) := by decide +kernel
theorem dX12_price_6 : decode cX12_price 6 = .ok (.ifCond .eq 12, 3) := by decide +kernel
theorem dX12_price_9 : decode cX12_price 9 = .ok (.aload_n 0, 1) := by decide +kernel
theorem dX12_price_10 : decode cX12_price 10 = .ok (.iload_n 1, 1) := by decide +kernel
theorem dX12_price_11 : decode cX12_price 11 = .ok (.iload_n 2, 1) := by decide +kernel
theorem dX12_price_12 : decode cX12_price 12 = .ok (.invokevirtual 304, 3) := by decide +kernel
theorem dX12_price_15 : decode cX12_price 15 = .ok (.goto 5, 3) := by decide +kernel
theorem dX12_price_18 : decode cX12_price 18 = .ok (.bipush (-5), 2) := by decide +kernel
theorem dX12_price_20 : decode cX12_price 20 = .ok (.ireturn, 1) := by decide +kernel
theorem dX12_allWorth_0 : decode cX12_allWorth 0 = .ok (.iconst 0, 1) := by decide +kernel
theorem dX12_allWorth_1 : decode cX12_allWorth 1 = .ok (.istore_n 1, 1) := by decide +kernel
theorem dX12_allWorth_2 : decode cX12_allWorth 2 = .ok (.iconst 0, 1) := by decide +kernel
theorem dX12_allWorth_3 : decode cX12_allWorth 3 = .ok (.istore_n 2, 1) := by decide +kernel
theorem dX12_allWorth_4 : decode cX12_allWorth 4 = .ok (.iload_n 2, 1) := by decide +kernel
theorem dX12_allWorth_5 : decode cX12_allWorth 5 = .ok (.aload_n 0, 1) := by decide +kernel
theorem dX12_allWorth_6 : decode cX12_allWorth 6 = .ok (.getfield 156, 3) := by decide +kernel
theorem dX12_allWorth_9 : decode cX12_allWorth 9 = .ok (.if_icmp .ge 36, 3) := by decide +kernel
theorem dX12_allWorth_12 : decode cX12_allWorth 12 = .ok (.iconst 0, 1) := by decide +kernel
theorem dX12_allWorth_13 : decode cX12_allWorth 13 = .ok (.istore_n 3, 1) := by decide +kernel
theorem dX12_allWorth_14 : decode cX12_allWorth 14 = .ok (.iload_n 3, 1) := by decide +kernel
theorem dX12_allWorth_15 : decode cX12_allWorth 15 = .ok (.aload_n 0, 1) := by decide +kernel
theorem dX12_allWorth_16 : decode cX12_allWorth 16 = .ok (.getfield 22, 3) := by decide +kernel
theorem dX12_allWorth_19 : decode cX12_allWorth 19 = .ok (.iload_n 2, 1) := by decide +kernel
theorem dX12_allWorth_20 : decode cX12_allWorth 20 = .ok (.iaload, 1) := by decide +kernel
theorem dX12_allWorth_21 : decode cX12_allWorth 21 = .ok (.if_icmp .ge 18, 3) := by decide +kernel
theorem dX12_allWorth_24 : decode cX12_allWorth 24 = .ok (.iload_n 1, 1) := by decide +kernel
theorem dX12_allWorth_25 : decode cX12_allWorth 25 = .ok (.aload_n 0, 1) := by decide +kernel
theorem dX12_allWorth_26 : decode cX12_allWorth 26 = .ok (.iload_n 2, 1) := by decide +kernel
theorem dX12_allWorth_27 : decode cX12_allWorth 27 = .ok (.iload_n 3, 1) := by decide +kernel
theorem dX12_allWorth_28 : decode cX12_allWorth 28 = .ok (.invokevirtual 301, 3) := by decide +kernel
theorem dX12_allWorth_31 : decode cX12_allWorth 31 = .ok (.iadd, 1) := by decide +kernel
theorem dX12_allWorth_32 : decode cX12_allWorth 32 = .ok (.istore_n 1, 1) := by decide +kernel
theorem dX12_allWorth_33 : decode cX12_allWorth 33 = .ok (.iinc 3 1, 3) := by decide +kernel
theorem dX12_allWorth_36 : decode cX12_allWorth 36 = .ok (.goto (-22), 3) := by decide +kernel
theorem dX12_allWorth_39 : decode cX12_allWorth 39 = .ok (.iinc 2 1, 3) := by decide +kernel
theorem dX12_allWorth_42 : decode cX12_allWorth 42 = .ok (.goto (-38), 3) := by decide +kernel
theorem dX12_allWorth_45 : decode cX12_allWorth 45 = .ok (.iload_n 1, 1) := by decide +kernel
theorem dX12_allWorth_46 : decode cX12_allWorth 46 = .ok (.ireturn, 1) := by decide +kernel
theorem dX12_all_0 : decode cX12_all 0 = .ok (.iload_n 1, 1) := by decide +kernel
theorem dX12_all_1 : decode cX12_all 1 = .ok (.iconst 0, 1) := by decide +kernel
theorem dX12_all_2 : decode cX12_all 2 = .ok (.iconst 3, 1) := by decide +kernel
theorem dX12_all_3 : decode cX12_all 3 = .ok (.invokestatic 159, 3) := by decide +kernel
theorem dX12_all_6 : decode cX12_all 6 = .ok (.ifCond .ne 6, 3) := by decide +kernel
theorem dX12_all_9 : decode cX12_all 9 = .ok (.bipush (-2), 2) := by decide +kernel
theorem dX12_all_11 : decode cX12_all 11 = .ok (.ireturn, 1) := by decide +kernel
theorem dX12_all_12 : decode cX12_all 12 = .ok (.iconst 0, 1) := by decide +kernel
theorem dX12_all_13 : decode cX12_all 13 = .ok (.istore_n 2, 1) := by decide +kernel
theorem dX12_all_14 : decode cX12_all 14 = .ok (.iconst 0, 1) := by decide +kernel
theorem dX12_all_15 : decode cX12_all 15 = .ok (.istore_n 3, 1) := by decide +kernel
theorem dX12_all_16 : decode cX12_all 16 = .ok (.iload_n 3, 1) := by decide +kernel
theorem dX12_all_17 : decode cX12_all 17 = .ok (.aload_n 0, 1) := by decide +kernel
theorem dX12_all_18 : decode cX12_all 18 = .ok (.getfield 156, 3) := by decide +kernel
theorem dX12_all_21 : decode cX12_all 21 = .ok (.if_icmp .ge 97, 3) := by decide +kernel
theorem dX12_all_24 : decode cX12_all 24 = .ok (.iconst 0, 1) := by decide +kernel
theorem dX12_all_25 : decode cX12_all 25 = .ok (.istore 4, 2) := by decide +kernel
theorem dX12_all_27 : decode cX12_all 27 = .ok (.iload 4, 2) := by decide +kernel
theorem dX12_all_29 : decode cX12_all 29 = .ok (.aload_n 0, 1) := by decide +kernel
theorem dX12_all_30 : decode cX12_all 30 = .ok (.getfield 22, 3) := by decide +kernel
theorem dX12_all_33 : decode cX12_all 33 = .ok (.iload_n 3, 1) := by decide +kernel
theorem dX12_all_34 : decode cX12_all 34 = .ok (.iaload, 1) := by decide +kernel
theorem dX12_all_35 : decode cX12_all 35 = .ok (.if_icmp .ge 77, 3) := by decide +kernel
theorem dX12_all_38 : decode cX12_all 38 = .ok (.aload_n 0, 1) := by decide +kernel
theorem dX12_all_39 : decode cX12_all 39 = .ok (.iload_n 3, 1) := by decide +kernel
theorem dX12_all_40 : decode cX12_all 40 = .ok (.iload 4, 2) := by decide +kernel
theorem dX12_all_42 : decode cX12_all 42 = .ok (.invokevirtual 288, 3) := by decide +kernel
theorem dX12_all_45 : decode cX12_all 45 = .ok (.istore 5, 2) := by decide +kernel
theorem dX12_all_47 : decode cX12_all 47 = .ok (.iload_n 2, 1) := by decide +kernel
theorem dX12_all_48 : decode cX12_all 48 = .ok (.iload_n 1, 1) := by decide +kernel
theorem dX12_all_49 : decode cX12_all 49 = .ok (.ifCond .ne 13, 3) := by decide +kernel
theorem dX12_all_52 : decode cX12_all 52 = .ok (.aload_n 0, 1) := by decide +kernel
theorem dX12_all_53 : decode cX12_all 53 = .ok (.iload_n 3, 1) := by decide +kernel
theorem dX12_all_54 : decode cX12_all 54 = .ok (.iload 4, 2) := by decide +kernel
theorem dX12_all_56 : decode cX12_all 56 = .ok (.invokevirtual 304, 3) := by decide +kernel
theorem dX12_all_59 : decode cX12_all 59 = .ok (.goto 45, 3) := by decide +kernel
theorem dX12_all_62 : decode cX12_all 62 = .ok (.iload_n 1, 1) := by decide +kernel
theorem dX12_all_63 : decode cX12_all 63 = .ok (.iconst 1, 1) := by decide +kernel
theorem dX12_all_64 : decode cX12_all 64 = .ok (.if_icmp .ne 13, 3) := by decide +kernel
theorem dX12_all_67 : decode cX12_all 67 = .ok (.aload_n 0, 1) := by decide +kernel
theorem dX12_all_68 : decode cX12_all 68 = .ok (.iload_n 3, 1) := by decide +kernel
theorem dX12_all_69 : decode cX12_all 69 = .ok (.iload 4, 2) := by decide +kernel
theorem dX12_all_71 : decode cX12_all 71 = .ok (.invokevirtual 301, 3) := by decide +kernel
theorem dX12_all_74 : decode cX12_all 74 = .ok (.goto 30, 3) := by decide +kernel
theorem dX12_all_77 : decode cX12_all 77 = .ok (.iload 5, 2) := by decide +kernel
theorem dX12_all_79 : decode cX12_all 79 = .ok (.iload_n 1, 1) := by decide +kernel
theorem dX12_all_80 : decode cX12_all 80 = .ok (.iconst 2, 1) := by decide +kernel
theorem dX12_all_81 : decode cX12_all 81 = .ok (.if_icmp .ne 14, 3) := by decide +kernel
theorem dX12_all_84 : decode cX12_all 84 = .ok (.iconst 1, 1) := by decide +kernel
theorem dX12_all_85 : decode cX12_all 85 = .ok (.aload_n 0, 1) := by decide +kernel
theorem dX12_all_86 : decode cX12_all 86 = .ok (.getfield 197, 3) := by decide +kernel
theorem dX12_all_89 : decode cX12_all 89 = .ok (.ishl, 1) := by decide +kernel
theorem dX12_all_90 : decode cX12_all 90 = .ok (.iconst 1, 1) := by decide +kernel
theorem dX12_all_91 : decode cX12_all 91 = .ok (.isub, 1) := by decide +kernel
theorem dX12_all_92 : decode cX12_all 92 = .ok (.goto 4, 3) := by decide +kernel
theorem dX12_all_95 : decode cX12_all 95 = .ok (.iconst 0, 1) := by decide +kernel
theorem dX12_all_96 : decode cX12_all 96 = .ok (.if_icmp .ne 7, 3) := by decide +kernel
theorem dX12_all_99 : decode cX12_all 99 = .ok (.iconst 1, 1) := by decide +kernel
theorem dX12_all_100 : decode cX12_all 100 = .ok (.goto 4, 3) := by decide +kernel
theorem dX12_all_103 : decode cX12_all 103 = .ok (.iconst 0, 1) := by decide +kernel
theorem dX12_all_104 : decode cX12_all 104 = .ok (.iadd, 1) := by decide +kernel
theorem dX12_all_105 : decode cX12_all 105 = .ok (.istore_n 2, 1) := by decide +kernel
theorem dX12_all_106 : decode cX12_all 106 = .ok (.iinc 4 1, 3) := by decide +kernel
theorem dX12_all_109 : decode cX12_all 109 = .ok (.goto (-82), 3) := by decide +kernel
theorem dX12_all_112 : decode cX12_all 112 = .ok (.iinc 3 1, 3) := by decide +kernel
theorem dX12_all_115 : decode cX12_all 115 = .ok (.goto (-99), 3) := by decide +kernel
theorem dX12_all_118 : decode cX12_all 118 = .ok (.iload_n 2, 1) := by decide +kernel
theorem dX12_all_119 : decode cX12_all 119 = .ok (.ireturn, 1) := by decide +kernel
theorem dX12_stepOf_0 : decode cX12_stepOf 0 = .ok (.aload_n 0, 1) := by decide +kernel
theorem dX12_stepOf_1 : decode cX12_stepOf 1 = .ok (.getfield 28, 3) := by decide +kernel
theorem dX12_stepOf_4 : decode cX12_stepOf 4 = .ok (.iload_n 1, 1) := by decide +kernel
theorem dX12_stepOf_5 : decode cX12_stepOf 5 = .ok (.iaload, 1) := by decide +kernel
theorem dX12_stepOf_6 : decode cX12_stepOf 6 = .ok (.iload_n 1, 1) := by decide +kernel
theorem dX12_stepOf_7 : decode cX12_stepOf 7 = .ok (.ifCond .ne 7, 3) := by decide +kernel
theorem dX12_stepOf_10 : decode cX12_stepOf 10 = .ok (.iconst 0, 1) := by decide +kernel
theorem dX12_stepOf_11 : decode cX12_stepOf 11 = .ok (.goto 11, 3) := by decide +kernel
theorem dX12_stepOf_14 : decode cX12_stepOf 14 = .ok (.aload_n 0, 1) := by decide +kernel
theorem dX12_stepOf_15 : decode cX12_stepOf 15 = .ok (.getfield 28, 3) := by decide +kernel
theorem dX12_stepOf_18 : decode cX12_stepOf 18 = .ok (.iload_n 1, 1) := by decide +kernel
theorem dX12_stepOf_19 : decode cX12_stepOf 19 = .ok (.iconst 1, 1) := by decide +kernel
theorem dX12_stepOf_20 : decode cX12_stepOf 20 = .ok (.isub, 1) := by decide +kernel
theorem dX12_stepOf_21 : decode cX12_stepOf 21 = .ok (.iaload, 1) := by decide +kernel
theorem dX12_stepOf_22 : decode cX12_stepOf 22 = .ok (.isub, 1) := by decide +kernel
theorem dX12_stepOf_23 : decode cX12_stepOf 23 = .ok (.ireturn, 1) := by decide +kernel
theorem dX12_cost_0 : decode cX12_cost 0 = .ok (.iconst 0, 1) := by decide +kernel
theorem dX12_cost_1 : decode cX12_cost 1 = .ok (.istore_n 1, 1) := by decide +kernel
theorem dX12_cost_2 : decode cX12_cost 2 = .ok (.iconst 0, 1) := by decide +kernel
theorem dX12_cost_3 : decode cX12_cost 3 = .ok (.istore_n 2, 1) := by decide +kernel
theorem dX12_cost_4 : decode cX12_cost 4 = .ok (.iload_n 2, 1) := by decide +kernel
theorem dX12_cost_5 : decode cX12_cost 5 = .ok (.aload_n 0, 1) := by decide +kernel
theorem dX12_cost_6 : decode cX12_cost 6 = .ok (.getfield 156, 3) := by decide +kernel
theorem dX12_cost_9 : decode cX12_cost 9 = .ok (.if_icmp .ge 47, 3) := by decide +kernel
theorem dX12_cost_12 : decode cX12_cost 12 = .ok (.aload_n 0, 1) := by decide +kernel
theorem dX12_cost_13 : decode cX12_cost 13 = .ok (.iload_n 2, 1) := by decide +kernel
theorem dX12_cost_14 : decode cX12_cost 14 = .ok (.invokevirtual 307, 3) := by decide +kernel
theorem dX12_cost_17 : decode cX12_cost 17 = .ok (.ifCond .eq 33, 3) := by decide +kernel
theorem dX12_cost_20 : decode cX12_cost 20 = .ok (.aload_n 0, 1) := by decide +kernel
theorem dX12_cost_21 : decode cX12_cost 21 = .ok (.iconst 0, 1) := by decide +kernel
theorem dX12_cost_22 : decode cX12_cost 22 = .ok (.aload_n 0, 1) := by decide +kernel
theorem dX12_cost_23 : decode cX12_cost 23 = .ok (.iload_n 2, 1) := by decide +kernel
theorem dX12_cost_24 : decode cX12_cost 24 = .ok (.invokevirtual 307, 3) := by decide +kernel
theorem dX12_cost_27 : decode cX12_cost 27 = .ok (.iload_n 2, 1) := by decide +kernel
theorem dX12_cost_28 : decode cX12_cost 28 = .ok (.iconst 0, 1) := by decide +kernel
theorem dX12_cost_29 : decode cX12_cost 29 = .ok (.aload_n 0, 1) := by decide +kernel
theorem dX12_cost_30 : decode cX12_cost 30 = .ok (.getfield 28, 3) := by decide +kernel
theorem dX12_cost_33 : decode cX12_cost 33 = .ok (.iload_n 2, 1) := by decide +kernel
theorem dX12_cost_34 : decode cX12_cost 34 = .ok (.iaload, 1) := by decide +kernel
theorem dX12_cost_35 : decode cX12_cost 35 = .ok (.iconst 0, 1) := by decide +kernel
theorem dX12_cost_36 : decode cX12_cost 36 = .ok (.invokevirtual 291, 3) := by decide +kernel
theorem dX12_cost_39 : decode cX12_cost 39 = .ok (.iload_n 1, 1) := by decide +kernel
theorem dX12_cost_40 : decode cX12_cost 40 = .ok (.aload_n 0, 1) := by decide +kernel
theorem dX12_cost_41 : decode cX12_cost 41 = .ok (.iconst 2, 1) := by decide +kernel
theorem dX12_cost_42 : decode cX12_cost 42 = .ok (.sipush 999, 3) := by decide +kernel
theorem dX12_cost_45 : decode cX12_cost 45 = .ok (.invokevirtual 295, 3) := by decide +kernel
theorem dX12_cost_48 : decode cX12_cost 48 = .ok (.iadd, 1) := by decide +kernel
theorem dX12_cost_49 : decode cX12_cost 49 = .ok (.istore_n 1, 1) := by decide +kernel
theorem dX12_cost_50 : decode cX12_cost 50 = .ok (.iinc 2 1, 3) := by decide +kernel
theorem dX12_cost_53 : decode cX12_cost 53 = .ok (.goto (-49), 3) := by decide +kernel
theorem dX12_cost_56 : decode cX12_cost 56 = .ok (.iload_n 1, 1) := by decide +kernel
theorem dX12_cost_57 : decode cX12_cost 57 = .ok (.ireturn, 1) := by decide +kernel
theorem dX12_lawful_0 : decode cX12_lawful 0 = .ok (.iload_n 1, 1) := by decide +kernel
theorem dX12_lawful_1 : decode cX12_lawful 1 = .ok (.iconst 0, 1) := by decide +kernel
theorem dX12_lawful_2 : decode cX12_lawful 2 = .ok (.bipush 99, 2) := by decide +kernel
theorem dX12_lawful_4 : decode cX12_lawful 4 = .ok (.invokestatic 159, 3) := by decide +kernel
theorem dX12_lawful_7 : decode cX12_lawful 7 = .ok (.ifCond .ne 6, 3) := by decide +kernel
theorem dX12_lawful_10 : decode cX12_lawful 10 = .ok (.bipush (-2), 2) := by decide +kernel
theorem dX12_lawful_12 : decode cX12_lawful 12 = .ok (.ireturn, 1) := by decide +kernel
theorem dX12_lawful_13 : decode cX12_lawful 13 = .ok (.iconst 0, 1) := by decide +kernel
theorem dX12_lawful_14 : decode cX12_lawful 14 = .ok (.istore_n 2, 1) := by decide +kernel
theorem dX12_lawful_15 : decode cX12_lawful 15 = .ok (.iload_n 2, 1) := by decide +kernel
theorem dX12_lawful_16 : decode cX12_lawful 16 = .ok (.aload_n 0, 1) := by decide +kernel
theorem dX12_lawful_17 : decode cX12_lawful 17 = .ok (.getfield 156, 3) := by decide +kernel
theorem dX12_lawful_20 : decode cX12_lawful 20 = .ok (.if_icmp .ge 30, 3) := by decide +kernel
theorem dX12_lawful_23 : decode cX12_lawful 23 = .ok (.aload_n 0, 1) := by decide +kernel
theorem dX12_lawful_24 : decode cX12_lawful 24 = .ok (.iload_n 2, 1) := by decide +kernel
theorem dX12_lawful_25 : decode cX12_lawful 25 = .ok (.invokevirtual 307, 3) := by decide +kernel
theorem dX12_lawful_28 : decode cX12_lawful 28 = .ok (.iload_n 1, 1) := by decide +kernel
theorem dX12_lawful_29 : decode cX12_lawful 29 = .ok (.if_icmp .gt 13, 3) := by decide +kernel
theorem dX12_lawful_32 : decode cX12_lawful 32 = .ok (.aload_n 0, 1) := by decide +kernel
theorem dX12_lawful_33 : decode cX12_lawful 33 = .ok (.iload_n 2, 1) := by decide +kernel
theorem dX12_lawful_34 : decode cX12_lawful 34 = .ok (.invokevirtual 307, 3) := by decide +kernel
theorem dX12_lawful_37 : decode cX12_lawful 37 = .ok (.iload_n 1, 1) := by decide +kernel
theorem dX12_lawful_38 : decode cX12_lawful 38 = .ok (.ineg, 1) := by decide +kernel
theorem dX12_lawful_39 : decode cX12_lawful 39 = .ok (.if_icmp .ge 5, 3) := by decide +kernel
theorem dX12_lawful_42 : decode cX12_lawful 42 = .ok (.iload_n 2, 1) := by decide +kernel
theorem dX12_lawful_43 : decode cX12_lawful 43 = .ok (.ireturn, 1) := by decide +kernel
theorem dX12_lawful_44 : decode cX12_lawful 44 = .ok (.iinc 2 1, 3) := by decide +kernel
theorem dX12_lawful_47 : decode cX12_lawful 47 = .ok (.goto (-32), 3) := by decide +kernel
theorem dX12_lawful_50 : decode cX12_lawful 50 = .ok (.iconst (-1), 1) := by decide +kernel
theorem dX12_lawful_51 : decode cX12_lawful 51 = .ok (.ireturn, 1) := by decide +kernel
theorem dX12_allSee_0 : decode cX12_allSee 0 = .ok (.iconst 0, 1) := by decide +kernel
theorem dX12_allSee_1 : decode cX12_allSee 1 = .ok (.istore_n 2, 1) := by decide +kernel
theorem dX12_allSee_2 : decode cX12_allSee 2 = .ok (.iload_n 2, 1) := by decide +kernel
theorem dX12_allSee_3 : decode cX12_allSee 3 = .ok (.aload_n 0, 1) := by decide +kernel
theorem dX12_allSee_4 : decode cX12_allSee 4 = .ok (.getfield 22, 3) := by decide +kernel
theorem dX12_allSee_7 : decode cX12_allSee 7 = .ok (.iload_n 1, 1) := by decide +kernel
theorem dX12_allSee_8 : decode cX12_allSee 8 = .ok (.iaload, 1) := by decide +kernel
theorem dX12_allSee_9 : decode cX12_allSee 9 = .ok (.if_icmp .ge 28, 3) := by decide +kernel
theorem dX12_allSee_12 : decode cX12_allSee 12 = .ok (.aload_n 0, 1) := by decide +kernel
theorem dX12_allSee_13 : decode cX12_allSee 13 = .ok (.iload_n 1, 1) := by decide +kernel
theorem dX12_allSee_14 : decode cX12_allSee 14 = .ok (.iload_n 2, 1) := by decide +kernel
theorem dX12_allSee_15 : decode cX12_allSee 15 = .ok (.invokevirtual 288, 3) := by decide +kernel
theorem dX12_allSee_18 : decode cX12_allSee 18 = .ok (.iconst 1, 1) := by decide +kernel
theorem dX12_allSee_19 : decode cX12_allSee 19 = .ok (.aload_n 0, 1) := by decide +kernel
theorem dX12_allSee_20 : decode cX12_allSee 20 = .ok (.getfield 197, 3) := by decide +kernel
theorem dX12_allSee_23 : decode cX12_allSee 23 = .ok (.ishl, 1) := by decide +kernel
theorem dX12_allSee_24 : decode cX12_allSee 24 = .ok (.iconst 1, 1) := by decide +kernel
theorem dX12_allSee_25 : decode cX12_allSee 25 = .ok (.isub, 1) := by decide +kernel
theorem dX12_allSee_26 : decode cX12_allSee 26 = .ok (.if_icmp .eq 5, 3) := by decide +kernel
theorem dX12_allSee_29 : decode cX12_allSee 29 = .ok (.iconst 0, 1) := by decide +kernel
theorem dX12_allSee_30 : decode cX12_allSee 30 = .ok (.ireturn, 1) := by decide +kernel
theorem dX12_allSee_31 : decode cX12_allSee 31 = .ok (.iinc 2 1, 3) := by decide +kernel
theorem dX12_allSee_34 : decode cX12_allSee 34 = .ok (.goto (-32), 3) := by decide +kernel
theorem dX12_allSee_37 : decode cX12_allSee 37 = .ok (.iconst 1, 1) := by decide +kernel
theorem dX12_allSee_38 : decode cX12_allSee 38 = .ok (.ireturn, 1) := by decide +kernel
theorem dX12_keepsRises_0 : decode cX12_keepsRises 0 = .ok (.iconst 0, 1) := by decide +kernel
theorem dX12_keepsRises_1 : decode cX12_keepsRises 1 = .ok (.istore_n 1, 1) := by decide +kernel
theorem dX12_keepsRises_2 : decode cX12_keepsRises 2 = .ok (.iload_n 1, 1) := by decide +kernel
theorem dX12_keepsRises_3 : decode cX12_keepsRises 3 = .ok (.bipush 6, 2) := by decide +kernel
theorem dX12_keepsRises_5 : decode cX12_keepsRises 5 = .ok (.if_icmp .ge 21, 3) := by decide +kernel
theorem dX12_keepsRises_8 : decode cX12_keepsRises 8 = .ok (.aload_n 0, 1) := by decide +kernel
theorem dX12_keepsRises_9 : decode cX12_keepsRises 9 = .ok (.getfield 138, 3) := by decide +kernel
theorem dX12_keepsRises_12 : decode cX12_keepsRises 12 = .ok (.iload_n 1, 1) := by decide +kernel
theorem dX12_keepsRises_13 : decode cX12_keepsRises 13 = .ok (.aload_n 0, 1) := by decide +kernel
theorem dX12_keepsRises_14 : decode cX12_keepsRises 14 = .ok (.getfield 28, 3) := by decide +kernel
theorem dX12_keepsRises_17 : decode cX12_keepsRises 17 = .ok (.iload_n 1, 1) := by decide +kernel
theorem dX12_keepsRises_18 : decode cX12_keepsRises 18 = .ok (.iaload, 1) := by decide +kernel
theorem dX12_keepsRises_19 : decode cX12_keepsRises 19 = .ok (.iastore, 1) := by decide +kernel
theorem dX12_keepsRises_20 : decode cX12_keepsRises 20 = .ok (.iinc 1 1, 3) := by decide +kernel
theorem dX12_keepsRises_23 : decode cX12_keepsRises 23 = .ok (.goto (-21), 3) := by decide +kernel
theorem dX12_keepsRises_26 : decode cX12_keepsRises 26 = .ok (.return_, 1) := by decide +kernel
theorem dX12_laysRises_0 : decode cX12_laysRises 0 = .ok (.iconst 0, 1) := by decide +kernel
theorem dX12_laysRises_1 : decode cX12_laysRises 1 = .ok (.istore_n 1, 1) := by decide +kernel
theorem dX12_laysRises_2 : decode cX12_laysRises 2 = .ok (.iload_n 1, 1) := by decide +kernel
theorem dX12_laysRises_3 : decode cX12_laysRises 3 = .ok (.bipush 6, 2) := by decide +kernel
theorem dX12_laysRises_5 : decode cX12_laysRises 5 = .ok (.if_icmp .ge 21, 3) := by decide +kernel
theorem dX12_laysRises_8 : decode cX12_laysRises 8 = .ok (.aload_n 0, 1) := by decide +kernel
theorem dX12_laysRises_9 : decode cX12_laysRises 9 = .ok (.getfield 28, 3) := by decide +kernel
theorem dX12_laysRises_12 : decode cX12_laysRises 12 = .ok (.iload_n 1, 1) := by decide +kernel
theorem dX12_laysRises_13 : decode cX12_laysRises 13 = .ok (.aload_n 0, 1) := by decide +kernel
theorem dX12_laysRises_14 : decode cX12_laysRises 14 = .ok (.getfield 138, 3) := by decide +kernel
theorem dX12_laysRises_17 : decode cX12_laysRises 17 = .ok (.iload_n 1, 1) := by decide +kernel
theorem dX12_laysRises_18 : decode cX12_laysRises 18 = .ok (.iaload, 1) := by decide +kernel
theorem dX12_laysRises_19 : decode cX12_laysRises 19 = .ok (.iastore, 1) := by decide +kernel
theorem dX12_laysRises_20 : decode cX12_laysRises 20 = .ok (.iinc 1 1, 3) := by decide +kernel
theorem dX12_laysRises_23 : decode cX12_laysRises 23 = .ok (.goto (-21), 3) := by decide +kernel
theorem dX12_laysRises_26 : decode cX12_laysRises 26 = .ok (.return_, 1) := by decide +kernel
theorem dX12_judge_0 : decode cX12_judge 0 = .ok (.iload_n 1, 1) := by decide +kernel
theorem dX12_judge_1 : decode cX12_judge 1 = .ok (.iconst 0, 1) := by decide +kernel
theorem dX12_judge_2 : decode cX12_judge 2 = .ok (.iconst 3, 1) := by decide +kernel
theorem dX12_judge_3 : decode cX12_judge 3 = .ok (.invokestatic 159, 3) := by decide +kernel
theorem dX12_judge_6 : decode cX12_judge 6 = .ok (.ifCond .ne 6, 3) := by decide +kernel
theorem dX12_judge_9 : decode cX12_judge 9 = .ok (.bipush (-2), 2) := by decide +kernel
theorem dX12_judge_11 : decode cX12_judge 11 = .ok (.ireturn, 1) := by decide +kernel
theorem dX12_judge_12 : decode cX12_judge 12 = .ok (.aload_n 0, 1) := by decide +kernel
theorem dX12_judge_13 : decode cX12_judge 13 = .ok (.getfield 92, 3) := by decide +kernel
theorem dX12_judge_16 : decode cX12_judge 16 = .ok (.iload_n 1, 1) := by decide +kernel
theorem dX12_judge_17 : decode cX12_judge 17 = .ok (.iaload, 1) := by decide +kernel
theorem dX12_judge_18 : decode cX12_judge 18 = .ok (.iconst (-1), 1) := by decide +kernel
theorem dX12_judge_19 : decode cX12_judge 19 = .ok (.if_icmp .ne 6, 3) := by decide +kernel
theorem dX12_judge_22 : decode cX12_judge 22 = .ok (.bipush (-11), 2) := by decide +kernel
theorem dX12_judge_24 : decode cX12_judge 24 = .ok (.ireturn, 1) := by decide +kernel
theorem dX12_judge_25 : decode cX12_judge 25 = .ok (.aload_n 0, 1) := by decide +kernel
theorem dX12_judge_26 : decode cX12_judge 26 = .ok (.getfield 95, 3) := by decide +kernel
theorem dX12_judge_29 : decode cX12_judge 29 = .ok (.iload_n 1, 1) := by decide +kernel
theorem dX12_judge_30 : decode cX12_judge 30 = .ok (.iaload, 1) := by decide +kernel
theorem dX12_judge_31 : decode cX12_judge 31 = .ok (.aload_n 0, 1) := by decide +kernel
theorem dX12_judge_32 : decode cX12_judge 32 = .ok (.getfield 156, 3) := by decide +kernel
theorem dX12_judge_35 : decode cX12_judge 35 = .ok (.if_icmp .ne 7, 3) := by decide +kernel
theorem dX12_judge_38 : decode cX12_judge 38 = .ok (.iconst 1, 1) := by decide +kernel
theorem dX12_judge_39 : decode cX12_judge 39 = .ok (.goto 4, 3) := by decide +kernel
theorem dX12_judge_42 : decode cX12_judge 42 = .ok (.iconst 0, 1) := by decide +kernel
theorem dX12_judge_43 : decode cX12_judge 43 = .ok (.istore_n 2, 1) := by decide +kernel
theorem dX12_judge_44 : decode cX12_judge 44 = .ok (.iconst 0, 1) := by decide +kernel
theorem dX12_judge_45 : decode cX12_judge 45 = .ok (.istore_n 3, 1) := by decide +kernel
theorem dX12_judge_46 : decode cX12_judge 46 = .ok (.iload_n 3, 1) := by decide +kernel
theorem dX12_judge_47 : decode cX12_judge 47 = .ok (.aload_n 0, 1) := by decide +kernel
theorem dX12_judge_48 : decode cX12_judge 48 = .ok (.getfield 156, 3) := by decide +kernel
theorem dX12_judge_51 : decode cX12_judge 51 = .ok (.if_icmp .ge 31, 3) := by decide +kernel
theorem dX12_judge_54 : decode cX12_judge 54 = .ok (.iload_n 2, 1) := by decide +kernel
theorem dX12_judge_55 : decode cX12_judge 55 = .ok (.ifCond .eq 27, 3) := by decide +kernel
theorem dX12_judge_58 : decode cX12_judge 58 = .ok (.aload_n 0, 1) := by decide +kernel
theorem dX12_judge_59 : decode cX12_judge 59 = .ok (.getfield 98, 3) := by decide +kernel
theorem dX12_judge_62 : decode cX12_judge 62 = .ok (.bipush 60, 2) := by decide +kernel
theorem dX12_judge_64 : decode cX12_judge 64 = .ok (.iload_n 1, 1) := by decide +kernel
theorem dX12_judge_65 : decode cX12_judge 65 = .ok (.imul, 1) := by decide +kernel
theorem dX12_judge_66 : decode cX12_judge 66 = .ok (.iload_n 3, 1) := by decide +kernel
theorem dX12_judge_67 : decode cX12_judge 67 = .ok (.iadd, 1) := by decide +kernel
theorem dX12_judge_68 : decode cX12_judge 68 = .ok (.iaload, 1) := by decide +kernel
theorem dX12_judge_69 : decode cX12_judge 69 = .ok (.iconst 0, 1) := by decide +kernel
theorem dX12_judge_70 : decode cX12_judge 70 = .ok (.bipush 99, 2) := by decide +kernel
theorem dX12_judge_72 : decode cX12_judge 72 = .ok (.invokestatic 159, 3) := by decide +kernel
theorem dX12_judge_75 : decode cX12_judge 75 = .ok (.istore_n 2, 1) := by decide +kernel
theorem dX12_judge_76 : decode cX12_judge 76 = .ok (.iinc 3 1, 3) := by decide +kernel
theorem dX12_judge_79 : decode cX12_judge 79 = .ok (.goto (-33), 3) := by decide +kernel
theorem dX12_judge_82 : decode cX12_judge 82 = .ok (.iload_n 2, 1) := by decide +kernel
theorem dX12_judge_83 : decode cX12_judge 83 = .ok (.ifCond .ne 6, 3) := by decide +kernel
theorem dX12_judge_86 : decode cX12_judge 86 = .ok (.bipush (-2), 2) := by decide +kernel
theorem dX12_judge_88 : decode cX12_judge 88 = .ok (.ireturn, 1) := by decide +kernel
theorem dX12_judge_89 : decode cX12_judge 89 = .ok (.aload_n 0, 1) := by decide +kernel
theorem dX12_judge_90 : decode cX12_judge 90 = .ok (.invokevirtual 310, 3) := by decide +kernel
theorem dX12_judge_93 : decode cX12_judge 93 = .ok (.iconst 0, 1) := by decide +kernel
theorem dX12_judge_94 : decode cX12_judge 94 = .ok (.istore_n 3, 1) := by decide +kernel
theorem dX12_judge_95 : decode cX12_judge 95 = .ok (.iload_n 3, 1) := by decide +kernel
theorem dX12_judge_96 : decode cX12_judge 96 = .ok (.aload_n 0, 1) := by decide +kernel
theorem dX12_judge_97 : decode cX12_judge 97 = .ok (.getfield 156, 3) := by decide +kernel
theorem dX12_judge_100 : decode cX12_judge 100 = .ok (.if_icmp .ge 26, 3) := by decide +kernel
theorem dX12_judge_103 : decode cX12_judge 103 = .ok (.aload_n 0, 1) := by decide +kernel
theorem dX12_judge_104 : decode cX12_judge 104 = .ok (.getfield 28, 3) := by decide +kernel
theorem dX12_judge_107 : decode cX12_judge 107 = .ok (.iload_n 3, 1) := by decide +kernel
theorem dX12_judge_108 : decode cX12_judge 108 = .ok (.aload_n 0, 1) := by decide +kernel
theorem dX12_judge_109 : decode cX12_judge 109 = .ok (.getfield 98, 3) := by decide +kernel
theorem dX12_judge_112 : decode cX12_judge 112 = .ok (.bipush 60, 2) := by decide +kernel
theorem dX12_judge_114 : decode cX12_judge 114 = .ok (.iload_n 1, 1) := by decide +kernel
theorem dX12_judge_115 : decode cX12_judge 115 = .ok (.imul, 1) := by decide +kernel
theorem dX12_judge_116 : decode cX12_judge 116 = .ok (.iload_n 3, 1) := by decide +kernel
theorem dX12_judge_117 : decode cX12_judge 117 = .ok (.iadd, 1) := by decide +kernel
theorem dX12_judge_118 : decode cX12_judge 118 = .ok (.iaload, 1) := by decide +kernel
theorem dX12_judge_119 : decode cX12_judge 119 = .ok (.iastore, 1) := by decide +kernel
theorem dX12_judge_120 : decode cX12_judge 120 = .ok (.iinc 3 1, 3) := by decide +kernel
theorem dX12_judge_123 : decode cX12_judge 123 = .ok (.goto (-28), 3) := by decide +kernel
theorem dX12_judge_126 : decode cX12_judge 126 = .ok (.iconst (-1), 1) := by decide +kernel
theorem dX12_judge_127 : decode cX12_judge 127 = .ok (.istore_n 3, 1) := by decide +kernel
theorem dX12_judge_128 : decode cX12_judge 128 = .ok (.aload_n 0, 1) := by decide +kernel
theorem dX12_judge_129 : decode cX12_judge 129 = .ok (.getfield 156, 3) := by decide +kernel
theorem dX12_judge_132 : decode cX12_judge 132 = .ok (.iconst 1, 1) := by decide +kernel
theorem dX12_judge_133 : decode cX12_judge 133 = .ok (.isub, 1) := by decide +kernel
theorem dX12_judge_134 : decode cX12_judge 134 = .ok (.istore 4, 2) := by decide +kernel
theorem dX12_judge_136 : decode cX12_judge 136 = .ok (.iload 4, 2) := by decide +kernel
theorem dX12_judge_138 : decode cX12_judge 138 = .ok (.ifCond .lt 25, 3) := by decide +kernel
theorem dX12_judge_141 : decode cX12_judge 141 = .ok (.aload_n 0, 1) := by decide +kernel
theorem dX12_judge_142 : decode cX12_judge 142 = .ok (.iload 4, 2) := by decide +kernel
theorem dX12_judge_144 : decode cX12_judge 144 = .ok (.invokevirtual 313, 3) := by decide +kernel
theorem dX12_judge_147 : decode cX12_judge 147 = .ok (.ifCond .eq 7, 3) := by decide +kernel
theorem dX12_judge_150 : decode cX12_judge 150 = .ok (.iload_n 3, 1) := by decide +kernel
theorem dX12_judge_151 : decode cX12_judge 151 = .ok (.goto 5, 3) := by decide +kernel
theorem dX12_judge_154 : decode cX12_judge 154 = .ok (.iload 4, 2) := by decide +kernel
theorem dX12_judge_156 : decode cX12_judge 156 = .ok (.istore_n 3, 1) := by decide +kernel
theorem dX12_judge_157 : decode cX12_judge 157 = .ok (.iinc 4 (-1), 3) := by decide +kernel
theorem dX12_judge_160 : decode cX12_judge 160 = .ok (.goto (-24), 3) := by decide +kernel
theorem dX12_judge_163 : decode cX12_judge 163 = .ok (.aload_n 0, 1) := by decide +kernel
theorem dX12_judge_164 : decode cX12_judge 164 = .ok (.invokevirtual 316, 3) := by decide +kernel
theorem dX12_judge_167 : decode cX12_judge 167 = .ok (.iload_n 3, 1) := by decide +kernel
theorem dX12_judge_168 : decode cX12_judge 168 = .ok (.ireturn, 1) := by decide +kernel
theorem dX12_lowest_0 : decode cX12_lowest 0 = .ok (.lload_n 0, 1) := by decide +kernel
theorem dX12_lowest_1 : decode cX12_lowest 1 = .ok (.lconst 0, 1) := by decide +kernel
theorem dX12_lowest_2 : decode cX12_lowest 2 = .ok (.lcmp, 1) := by decide +kernel
theorem dX12_lowest_3 : decode cX12_lowest 3 = .ok (.ifCond .ne 7, 3) := by decide +kernel
theorem dX12_lowest_6 : decode cX12_lowest 6 = .ok (.iload 4, 2) := by decide +kernel
theorem dX12_lowest_8 : decode cX12_lowest 8 = .ok (.i2l, 1) := by decide +kernel
theorem dX12_lowest_9 : decode cX12_lowest 9 = .ok (.lreturn, 1) := by decide +kernel
theorem dX12_lowest_10 : decode cX12_lowest 10 = .ok (.lload_n 0, 1) := by decide +kernel
theorem dX12_lowest_11 : decode cX12_lowest 11 = .ok (.lstore 5, 2) := by decide +kernel
theorem dX12_lowest_13 : decode cX12_lowest 13 = .ok (.lload_n 2, 1) := by decide +kernel
theorem dX12_lowest_14 : decode cX12_lowest 14 = .ok (.lstore 7, 2) := by decide +kernel
theorem dX12_lowest_16 : decode cX12_lowest 16 = .ok (.lload 7, 2) := by decide +kernel
theorem dX12_lowest_18 : decode cX12_lowest 18 = .ok (.lconst 0, 1) := by decide +kernel
theorem dX12_lowest_19 : decode cX12_lowest 19 = .ok (.lcmp, 1) := by decide +kernel
theorem dX12_lowest_20 : decode cX12_lowest 20 = .ok (.ifCond .eq 21, 3) := by decide +kernel
theorem dX12_lowest_23 : decode cX12_lowest 23 = .ok (.lload 5, 2) := by decide +kernel
theorem dX12_lowest_25 : decode cX12_lowest 25 = .ok (.lload 7, 2) := by decide +kernel
theorem dX12_lowest_27 : decode cX12_lowest 27 = .ok (.lrem, 1) := by decide +kernel
theorem dX12_lowest_28 : decode cX12_lowest 28 = .ok (.lstore 9, 2) := by decide +kernel
theorem dX12_lowest_30 : decode cX12_lowest 30 = .ok (.lload 7, 2) := by decide +kernel
theorem dX12_lowest_32 : decode cX12_lowest 32 = .ok (.lstore 5, 2) := by decide +kernel
theorem dX12_lowest_34 : decode cX12_lowest 34 = .ok (.lload 9, 2) := by decide +kernel
theorem dX12_lowest_36 : decode cX12_lowest 36 = .ok (.lstore 7, 2) := by decide +kernel
theorem dX12_lowest_38 : decode cX12_lowest 38 = .ok (.goto (-22), 3) := by decide +kernel
theorem dX12_lowest_41 : decode cX12_lowest 41 = .ok (.iload 4, 2) := by decide +kernel
theorem dX12_lowest_43 : decode cX12_lowest 43 = .ok (.ifCond .ne 7, 3) := by decide +kernel
theorem dX12_lowest_46 : decode cX12_lowest 46 = .ok (.lload_n 0, 1) := by decide +kernel
theorem dX12_lowest_47 : decode cX12_lowest 47 = .ok (.goto 4, 3) := by decide +kernel
theorem dX12_lowest_50 : decode cX12_lowest 50 = .ok (.lload_n 2, 1) := by decide +kernel
theorem dX12_lowest_51 : decode cX12_lowest 51 = .ok (.lload 5, 2) := by decide +kernel
theorem dX12_lowest_53 : decode cX12_lowest 53 = .ok (.ldiv, 1) := by decide +kernel
theorem dX12_lowest_54 : decode cX12_lowest 54 = .ok (.lreturn, 1) := by decide +kernel
theorem dX12_allCounts_0 : decode cX12_allCounts 0 = .ok (.aload_n 0, 1) := by decide +kernel
theorem dX12_allCounts_1 : decode cX12_allCounts 1 = .ok (.getfield 16, 3) := by decide +kernel
theorem dX12_allCounts_4 : decode cX12_allCounts 4 = .ok (.iconst 0, 1) := by decide +kernel
theorem dX12_allCounts_5 : decode cX12_allCounts 5 = .ok (.iaload, 1) := by decide +kernel
theorem dX12_allCounts_6 : decode cX12_allCounts 6 = .ok (.aload_n 0, 1) := by decide +kernel
theorem dX12_allCounts_7 : decode cX12_allCounts 7 = .ok (.getfield 16, 3) := by decide +kernel
theorem dX12_allCounts_10 : decode cX12_allCounts 10 = .ok (.iconst 1, 1) := by decide +kernel
theorem dX12_allCounts_11 : decode cX12_allCounts 11 = .ok (.iaload, 1) := by decide +kernel
theorem dX12_allCounts_12 : decode cX12_allCounts 12 = .ok (.iadd, 1) := by decide +kernel
theorem dX12_allCounts_13 : decode cX12_allCounts 13 = .ok (.aload_n 0, 1) := by decide +kernel
theorem dX12_allCounts_14 : decode cX12_allCounts 14 = .ok (.getfield 16, 3) := by decide +kernel
theorem dX12_allCounts_17 : decode cX12_allCounts 17 = .ok (.iconst 2, 1) := by decide +kernel
theorem dX12_allCounts_18 : decode cX12_allCounts 18 = .ok (.iaload, 1) := by decide +kernel
theorem dX12_allCounts_19 : decode cX12_allCounts 19 = .ok (.iadd, 1) := by decide +kernel
theorem dX12_allCounts_20 : decode cX12_allCounts 20 = .ok (.aload_n 0, 1) := by decide +kernel
theorem dX12_allCounts_21 : decode cX12_allCounts 21 = .ok (.getfield 16, 3) := by decide +kernel
theorem dX12_allCounts_24 : decode cX12_allCounts 24 = .ok (.iconst 3, 1) := by decide +kernel
theorem dX12_allCounts_25 : decode cX12_allCounts 25 = .ok (.iaload, 1) := by decide +kernel
theorem dX12_allCounts_26 : decode cX12_allCounts 26 = .ok (.iadd, 1) := by decide +kernel
theorem dX12_allCounts_27 : decode cX12_allCounts 27 = .ok (.ireturn, 1) := by decide +kernel
theorem dX12_cases_0 : decode cX12_cases 0 = .ok (.aload_n 0, 1) := by decide +kernel
theorem dX12_cases_1 : decode cX12_cases 1 = .ok (.iconst 0, 1) := by decide +kernel
theorem dX12_cases_2 : decode cX12_cases 2 = .ok (.putfield 319, 3) := by decide +kernel
theorem dX12_cases_5 : decode cX12_cases 5 = .ok (.aload_n 0, 1) := by decide +kernel
theorem dX12_cases_6 : decode cX12_cases 6 = .ok (.lconst 1, 1) := by decide +kernel
theorem dX12_cases_7 : decode cX12_cases 7 = .ok (.putfield 322, 3) := by decide +kernel
theorem dX12_cases_10 : decode cX12_cases 10 = .ok (.iconst 0, 1) := by decide +kernel
theorem dX12_cases_11 : decode cX12_cases 11 = .ok (.istore 4, 2) := by decide +kernel
theorem dX12_cases_13 : decode cX12_cases 13 = .ok (.iload 4, 2) := by decide +kernel
theorem dX12_cases_15 : decode cX12_cases 15 = .ok (.iload_n 1, 1) := by decide +kernel
theorem dX12_cases_16 : decode cX12_cases 16 = .ok (.if_icmp .ge 129, 3) := by decide +kernel
theorem dX12_cases_19 : decode cX12_cases 19 = .ok (.iconst 0, 1) := by decide +kernel
theorem dX12_cases_20 : decode cX12_cases 20 = .ok (.istore 5, 2) := by decide +kernel
theorem dX12_cases_22 : decode cX12_cases 22 = .ok (.iload 5, 2) := by decide +kernel
theorem dX12_cases_24 : decode cX12_cases 24 = .ok (.aload_n 0, 1) := by decide +kernel
theorem dX12_cases_25 : decode cX12_cases 25 = .ok (.getfield 22, 3) := by decide +kernel
theorem dX12_cases_28 : decode cX12_cases 28 = .ok (.iload 4, 2) := by decide +kernel
theorem dX12_cases_30 : decode cX12_cases 30 = .ok (.iaload, 1) := by decide +kernel
theorem dX12_cases_31 : decode cX12_cases 31 = .ok (.if_icmp .ge 108, 3) := by decide +kernel
theorem dX12_cases_34 : decode cX12_cases 34 = .ok (.aload_n 0, 1) := by decide +kernel
theorem dX12_cases_35 : decode cX12_cases 35 = .ok (.iload_n 1, 1) := by decide +kernel
theorem dX12_cases_36 : decode cX12_cases 36 = .ok (.iload_n 2, 1) := by decide +kernel
theorem dX12_cases_37 : decode cX12_cases 37 = .ok (.iload_n 3, 1) := by decide +kernel
theorem dX12_cases_38 : decode cX12_cases 38 = .ok (.iload 4, 2) := by decide +kernel
theorem dX12_cases_40 : decode cX12_cases 40 = .ok (.iload 5, 2) := by decide +kernel
theorem dX12_cases_42 : decode cX12_cases 42 = .ok (.invokevirtual 275, 3) := by decide +kernel
theorem dX12_cases_45 : decode cX12_cases 45 = .ok (.ifCond .eq 88, 3) := by decide +kernel
theorem dX12_cases_48 : decode cX12_cases 48 = .ok (.iconst 0, 1) := by decide +kernel
theorem dX12_cases_49 : decode cX12_cases 49 = .ok (.istore 6, 2) := by decide +kernel
theorem dX12_cases_51 : decode cX12_cases 51 = .ok (.iconst 0, 1) := by decide +kernel
theorem dX12_cases_52 : decode cX12_cases 52 = .ok (.istore 7, 2) := by decide +kernel
theorem dX12_cases_54 : decode cX12_cases 54 = .ok (.iload 7, 2) := by decide +kernel
theorem dX12_cases_56 : decode cX12_cases 56 = .ok (.iconst 4, 1) := by decide +kernel
theorem dX12_cases_57 : decode cX12_cases 57 = .ok (.if_icmp .ge 54, 3) := by decide +kernel
theorem dX12_cases_60 : decode cX12_cases 60 = .ok (.iload 6, 2) := by decide +kernel
theorem dX12_cases_62 : decode cX12_cases 62 = .ok (.aload_n 0, 1) := by decide +kernel
theorem dX12_cases_63 : decode cX12_cases 63 = .ok (.iload_n 1, 1) := by decide +kernel
theorem dX12_cases_64 : decode cX12_cases 64 = .ok (.iload_n 2, 1) := by decide +kernel
theorem dX12_cases_65 : decode cX12_cases 65 = .ok (.iload_n 3, 1) := by decide +kernel
theorem dX12_cases_66 : decode cX12_cases 66 = .ok (.aload_n 0, 1) := by decide +kernel
theorem dX12_cases_67 : decode cX12_cases 67 = .ok (.iload 4, 2) := by decide +kernel
theorem dX12_cases_69 : decode cX12_cases 69 = .ok (.aload_n 0, 1) := by decide +kernel
theorem dX12_cases_70 : decode cX12_cases 70 = .ok (.getfield 13, 3) := by decide +kernel
theorem dX12_cases_73 : decode cX12_cases 73 = .ok (.iload 7, 2) := by decide +kernel
theorem dX12_cases_75 : decode cX12_cases 75 = .ok (.iaload, 1) := by decide +kernel
theorem dX12_cases_76 : decode cX12_cases 76 = .ok (.invokevirtual 175, 3) := by decide +kernel
theorem dX12_cases_79 : decode cX12_cases 79 = .ok (.aload_n 0, 1) := by decide +kernel
theorem dX12_cases_80 : decode cX12_cases 80 = .ok (.iload 4, 2) := by decide +kernel
theorem dX12_cases_82 : decode cX12_cases 82 = .ok (.invokevirtual 185, 3) := by decide +kernel
theorem dX12_cases_85 : decode cX12_cases 85 = .ok (.invokevirtual 279, 3) := by decide +kernel
theorem dX12_cases_88 : decode cX12_cases 88 = .ok (.ifCond .eq 7, 3) := by decide +kernel
theorem dX12_cases_91 : decode cX12_cases 91 = .ok (.iconst 0, 1) := by decide +kernel
theorem dX12_cases_92 : decode cX12_cases 92 = .ok (.goto 10, 3) := by decide +kernel
theorem dX12_cases_95 : decode cX12_cases 95 = .ok (.aload_n 0, 1) := by decide +kernel
theorem dX12_cases_96 : decode cX12_cases 96 = .ok (.getfield 16, 3) := by decide +kernel
theorem dX12_cases_99 : decode cX12_cases 99 = .ok (.iload 7, 2) := by decide +kernel
theorem dX12_cases_101 : decode cX12_cases 101 = .ok (.iaload, 1) := by decide +kernel
theorem dX12_cases_102 : decode cX12_cases 102 = .ok (.iadd, 1) := by decide +kernel
theorem dX12_cases_103 : decode cX12_cases 103 = .ok (.istore 6, 2) := by decide +kernel
theorem dX12_cases_105 : decode cX12_cases 105 = .ok (.iinc 7 1, 3) := by decide +kernel
theorem dX12_cases_108 : decode cX12_cases 108 = .ok (.goto (-54), 3) := by decide +kernel
theorem dX12_cases_111 : decode cX12_cases 111 = .ok (.aload_n 0, 1) := by decide +kernel
theorem dX12_cases_112 : decode cX12_cases 112 = .ok (.dup, 1) := by decide +kernel
theorem dX12_cases_113 : decode cX12_cases 113 = .ok (.getfield 319, 3) := by decide +kernel
theorem dX12_cases_116 : decode cX12_cases 116 = .ok (.iconst 1, 1) := by decide +kernel
theorem dX12_cases_117 : decode cX12_cases 117 = .ok (.iadd, 1) := by decide +kernel
theorem dX12_cases_118 : decode cX12_cases 118 = .ok (.putfield 319, 3) := by decide +kernel
theorem dX12_cases_121 : decode cX12_cases 121 = .ok (.aload_n 0, 1) := by decide +kernel
theorem dX12_cases_122 : decode cX12_cases 122 = .ok (.dup, 1) := by decide +kernel
theorem dX12_cases_123 : decode cX12_cases 123 = .ok (.getfield 322, 3) := by decide +kernel
theorem dX12_cases_126 : decode cX12_cases 126 = .ok (.iload 6, 2) := by decide +kernel
theorem dX12_cases_128 : decode cX12_cases 128 = .ok (.i2l, 1) := by decide +kernel
theorem dX12_cases_129 : decode cX12_cases 129 = .ok (.lmul, 1) := by decide +kernel
theorem dX12_cases_130 : decode cX12_cases 130 = .ok (.putfield 322, 3) := by decide +kernel
theorem dX12_cases_133 : decode cX12_cases 133 = .ok (.iinc 5 1, 3) := by decide +kernel
theorem dX12_cases_136 : decode cX12_cases 136 = .ok (.goto (-114), 3) := by decide +kernel
theorem dX12_cases_139 : decode cX12_cases 139 = .ok (.iinc 4 1, 3) := by decide +kernel
theorem dX12_cases_142 : decode cX12_cases 142 = .ok (.goto (-129), 3) := by decide +kernel
theorem dX12_cases_145 : decode cX12_cases 145 = .ok (.aload_n 0, 1) := by decide +kernel
theorem dX12_cases_146 : decode cX12_cases 146 = .ok (.aload_n 0, 1) := by decide +kernel
theorem dX12_cases_147 : decode cX12_cases 147 = .ok (.iload_n 1, 1) := by decide +kernel
theorem dX12_cases_148 : decode cX12_cases 148 = .ok (.iload_n 2, 1) := by decide +kernel
theorem dX12_cases_149 : decode cX12_cases 149 = .ok (.iload_n 3, 1) := by decide +kernel
theorem dX12_cases_150 : decode cX12_cases 150 = .ok (.invokevirtual 282, 3) := by decide +kernel
theorem dX12_cases_153 : decode cX12_cases 153 = .ok (.iconst (-1), 1) := by decide +kernel
theorem dX12_cases_154 : decode cX12_cases 154 = .ok (.if_icmp .ne 10, 3) := by decide +kernel
theorem dX12_cases_157 : decode cX12_cases 157 = .ok (.aload_n 0, 1) := by decide +kernel
theorem dX12_cases_158 : decode cX12_cases 158 = .ok (.getfield 322, 3) := by decide +kernel
theorem dX12_cases_161 : decode cX12_cases 161 = .ok (.goto 4, 3) := by decide +kernel
theorem dX12_cases_164 : decode cX12_cases 164 = .ok (.lconst 0, 1) := by decide +kernel
theorem dX12_cases_165 : decode cX12_cases 165 = .ok (.putfield 322, 3) := by decide +kernel
theorem dX12_cases_168 : decode cX12_cases 168 = .ok (.return_, 1) := by decide +kernel
theorem dX12_power_0 : decode cX12_power 0 = .ok (.lconst 1, 1) := by decide +kernel
theorem dX12_power_1 : decode cX12_power 1 = .ok (.lstore_n 3, 1) := by decide +kernel
theorem dX12_power_2 : decode cX12_power 2 = .ok (.iconst 0, 1) := by decide +kernel
theorem dX12_power_3 : decode cX12_power 3 = .ok (.istore 5, 2) := by decide +kernel
theorem dX12_power_5 : decode cX12_power 5 = .ok (.iload 5, 2) := by decide +kernel
theorem dX12_power_7 : decode cX12_power 7 = .ok (.iload_n 2, 1) := by decide +kernel
theorem dX12_power_8 : decode cX12_power 8 = .ok (.if_icmp .ge 13, 3) := by decide +kernel
theorem dX12_power_11 : decode cX12_power 11 = .ok (.lload_n 3, 1) := by decide +kernel
theorem dX12_power_12 : decode cX12_power 12 = .ok (.lload_n 0, 1) := by decide +kernel
theorem dX12_power_13 : decode cX12_power 13 = .ok (.lmul, 1) := by decide +kernel
theorem dX12_power_14 : decode cX12_power 14 = .ok (.lstore_n 3, 1) := by decide +kernel
theorem dX12_power_15 : decode cX12_power 15 = .ok (.iinc 5 1, 3) := by decide +kernel
theorem dX12_power_18 : decode cX12_power 18 = .ok (.goto (-13), 3) := by decide +kernel
theorem dX12_power_21 : decode cX12_power 21 = .ok (.lload_n 3, 1) := by decide +kernel
theorem dX12_power_22 : decode cX12_power 22 = .ok (.lreturn, 1) := by decide +kernel
theorem dX12_chance_0 : decode cX12_chance 0 = .ok (.aload_n 0, 1) := by decide +kernel
theorem dX12_chance_1 : decode cX12_chance 1 = .ok (.iload_n 1, 1) := by decide +kernel
theorem dX12_chance_2 : decode cX12_chance 2 = .ok (.iload_n 2, 1) := by decide +kernel
theorem dX12_chance_3 : decode cX12_chance 3 = .ok (.invokevirtual 167, 3) := by decide +kernel
theorem dX12_chance_6 : decode cX12_chance 6 = .ok (.ifCond .eq 34, 3) := by decide +kernel
theorem dX12_chance_9 : decode cX12_chance 9 = .ok (.iload_n 3, 1) := by decide +kernel
theorem dX12_chance_10 : decode cX12_chance 10 = .ok (.iconst 0, 1) := by decide +kernel
theorem dX12_chance_11 : decode cX12_chance 11 = .ok (.aload_n 0, 1) := by decide +kernel
theorem dX12_chance_12 : decode cX12_chance 12 = .ok (.getfield 197, 3) := by decide +kernel
theorem dX12_chance_15 : decode cX12_chance 15 = .ok (.iconst 1, 1) := by decide +kernel
theorem dX12_chance_16 : decode cX12_chance 16 = .ok (.isub, 1) := by decide +kernel
theorem dX12_chance_17 : decode cX12_chance 17 = .ok (.invokestatic 159, 3) := by decide +kernel
theorem dX12_chance_20 : decode cX12_chance 20 = .ok (.ifCond .eq 20, 3) := by decide +kernel
theorem dX12_chance_23 : decode cX12_chance 23 = .ok (.iload 4, 2) := by decide +kernel
theorem dX12_chance_25 : decode cX12_chance 25 = .ok (.iconst 0, 1) := by decide +kernel
theorem dX12_chance_26 : decode cX12_chance 26 = .ok (.iconst 1, 1) := by decide +kernel
theorem dX12_chance_27 : decode cX12_chance 27 = .ok (.invokestatic 159, 3) := by decide +kernel
theorem dX12_chance_30 : decode cX12_chance 30 = .ok (.ifCond .eq 10, 3) := by decide +kernel
theorem dX12_chance_33 : decode cX12_chance 33 = .ok (.aload_n 0, 1) := by decide +kernel
theorem dX12_chance_34 : decode cX12_chance 34 = .ok (.invokevirtual 326, 3) := by decide +kernel
theorem dX12_chance_37 : decode cX12_chance 37 = .ok (.ifCond .ne 7, 3) := by decide +kernel
theorem dX12_chance_40 : decode cX12_chance 40 = .ok (.ldc2_w 329, 3) := by decide +kernel
theorem dX12_chance_43 : decode cX12_chance 43 = .ok (.lreturn, 1) := by decide +kernel
theorem dX12_chance_44 : decode cX12_chance 44 = .ok (.aload_n 0, 1) := by decide +kernel
theorem dX12_chance_45 : decode cX12_chance 45 = .ok (.iload_n 1, 1) := by decide +kernel
theorem dX12_chance_46 : decode cX12_chance 46 = .ok (.iload_n 2, 1) := by decide +kernel
theorem dX12_chance_47 : decode cX12_chance 47 = .ok (.iload_n 3, 1) := by decide +kernel
theorem dX12_chance_48 : decode cX12_chance 48 = .ok (.invokevirtual 331, 3) := by decide +kernel
theorem dX12_chance_51 : decode cX12_chance 51 = .ok (.aload_n 0, 1) := by decide +kernel
theorem dX12_chance_52 : decode cX12_chance 52 = .ok (.getfield 322, 3) := by decide +kernel
theorem dX12_chance_55 : decode cX12_chance 55 = .ok (.aload_n 0, 1) := by decide +kernel
theorem dX12_chance_56 : decode cX12_chance 56 = .ok (.invokevirtual 326, 3) := by decide +kernel
theorem dX12_chance_59 : decode cX12_chance 59 = .ok (.i2l, 1) := by decide +kernel
theorem dX12_chance_60 : decode cX12_chance 60 = .ok (.aload_n 0, 1) := by decide +kernel
theorem dX12_chance_61 : decode cX12_chance 61 = .ok (.getfield 319, 3) := by decide +kernel
theorem dX12_chance_64 : decode cX12_chance 64 = .ok (.invokestatic 335, 3) := by decide +kernel
theorem dX12_chance_67 : decode cX12_chance 67 = .ok (.iload 4, 2) := by decide +kernel
theorem dX12_chance_69 : decode cX12_chance 69 = .ok (.invokestatic 339, 3) := by decide +kernel
theorem dX12_chance_72 : decode cX12_chance 72 = .ok (.lreturn, 1) := by decide +kernel
theorem dX12_mean_0 : decode cX12_mean 0 = .ok (.aload_n 0, 1) := by decide +kernel
theorem dX12_mean_1 : decode cX12_mean 1 = .ok (.iload_n 1, 1) := by decide +kernel
theorem dX12_mean_2 : decode cX12_mean 2 = .ok (.iload_n 2, 1) := by decide +kernel
theorem dX12_mean_3 : decode cX12_mean 3 = .ok (.invokevirtual 167, 3) := by decide +kernel
theorem dX12_mean_6 : decode cX12_mean 6 = .ok (.ifCond .eq 19, 3) := by decide +kernel
theorem dX12_mean_9 : decode cX12_mean 9 = .ok (.iload_n 3, 1) := by decide +kernel
theorem dX12_mean_10 : decode cX12_mean 10 = .ok (.iconst 0, 1) := by decide +kernel
theorem dX12_mean_11 : decode cX12_mean 11 = .ok (.iconst 1, 1) := by decide +kernel
theorem dX12_mean_12 : decode cX12_mean 12 = .ok (.invokestatic 159, 3) := by decide +kernel
theorem dX12_mean_15 : decode cX12_mean 15 = .ok (.ifCond .eq 10, 3) := by decide +kernel
theorem dX12_mean_18 : decode cX12_mean 18 = .ok (.aload_n 0, 1) := by decide +kernel
theorem dX12_mean_19 : decode cX12_mean 19 = .ok (.invokevirtual 326, 3) := by decide +kernel
theorem dX12_mean_22 : decode cX12_mean 22 = .ok (.ifCond .ne 7, 3) := by decide +kernel
theorem dX12_mean_25 : decode cX12_mean 25 = .ok (.ldc2_w 329, 3) := by decide +kernel
theorem dX12_mean_28 : decode cX12_mean 28 = .ok (.lreturn, 1) := by decide +kernel
theorem dX12_mean_29 : decode cX12_mean 29 = .ok (.iconst 0, 1) := by decide +kernel
theorem dX12_mean_30 : decode cX12_mean 30 = .ok (.istore 4, 2) := by decide +kernel
theorem dX12_mean_32 : decode cX12_mean 32 = .ok (.iconst 0, 1) := by decide +kernel
theorem dX12_mean_33 : decode cX12_mean 33 = .ok (.istore 5, 2) := by decide +kernel
theorem dX12_mean_35 : decode cX12_mean 35 = .ok (.iload 5, 2) := by decide +kernel
theorem dX12_mean_37 : decode cX12_mean 37 = .ok (.aload_n 0, 1) := by decide +kernel
theorem dX12_mean_38 : decode cX12_mean 38 = .ok (.getfield 197, 3) := by decide +kernel
theorem dX12_mean_41 : decode cX12_mean 41 = .ok (.if_icmp .ge 37, 3) := by decide +kernel
theorem dX12_mean_44 : decode cX12_mean 44 = .ok (.aload_n 0, 1) := by decide +kernel
theorem dX12_mean_45 : decode cX12_mean 45 = .ok (.iload_n 1, 1) := by decide +kernel
theorem dX12_mean_46 : decode cX12_mean 46 = .ok (.iload_n 2, 1) := by decide +kernel
theorem dX12_mean_47 : decode cX12_mean 47 = .ok (.iload 5, 2) := by decide +kernel
theorem dX12_mean_49 : decode cX12_mean 49 = .ok (.invokevirtual 331, 3) := by decide +kernel
theorem dX12_mean_52 : decode cX12_mean 52 = .ok (.aload_n 0, 1) := by decide +kernel
theorem dX12_mean_53 : decode cX12_mean 53 = .ok (.getfield 319, 3) := by decide +kernel
theorem dX12_mean_56 : decode cX12_mean 56 = .ok (.iload 4, 2) := by decide +kernel
theorem dX12_mean_58 : decode cX12_mean 58 = .ok (.if_icmp .le 10, 3) := by decide +kernel
theorem dX12_mean_61 : decode cX12_mean 61 = .ok (.aload_n 0, 1) := by decide +kernel
theorem dX12_mean_62 : decode cX12_mean 62 = .ok (.getfield 319, 3) := by decide +kernel
theorem dX12_mean_65 : decode cX12_mean 65 = .ok (.goto 5, 3) := by decide +kernel
theorem dX12_mean_68 : decode cX12_mean 68 = .ok (.iload 4, 2) := by decide +kernel
theorem dX12_mean_70 : decode cX12_mean 70 = .ok (.istore 4, 2) := by decide +kernel
theorem dX12_mean_72 : decode cX12_mean 72 = .ok (.iinc 5 1, 3) := by decide +kernel
theorem dX12_mean_75 : decode cX12_mean 75 = .ok (.goto (-40), 3) := by decide +kernel
theorem dX12_mean_78 : decode cX12_mean 78 = .ok (.lconst 0, 1) := by decide +kernel
theorem dX12_mean_79 : decode cX12_mean 79 = .ok (.lstore 5, 2) := by decide +kernel
theorem dX12_mean_81 : decode cX12_mean 81 = .ok (.iconst 0, 1) := by decide +kernel
theorem dX12_mean_82 : decode cX12_mean 82 = .ok (.istore 7, 2) := by decide +kernel
theorem dX12_mean_84 : decode cX12_mean 84 = .ok (.iload 7, 2) := by decide +kernel
theorem dX12_mean_86 : decode cX12_mean 86 = .ok (.aload_n 0, 1) := by decide +kernel
theorem dX12_mean_87 : decode cX12_mean 87 = .ok (.getfield 197, 3) := by decide +kernel
theorem dX12_mean_90 : decode cX12_mean 90 = .ok (.if_icmp .ge 52, 3) := by decide +kernel
theorem dX12_mean_93 : decode cX12_mean 93 = .ok (.aload_n 0, 1) := by decide +kernel
theorem dX12_mean_94 : decode cX12_mean 94 = .ok (.iload_n 1, 1) := by decide +kernel
theorem dX12_mean_95 : decode cX12_mean 95 = .ok (.iload_n 2, 1) := by decide +kernel
theorem dX12_mean_96 : decode cX12_mean 96 = .ok (.iload 7, 2) := by decide +kernel
theorem dX12_mean_98 : decode cX12_mean 98 = .ok (.invokevirtual 331, 3) := by decide +kernel
theorem dX12_mean_101 : decode cX12_mean 101 = .ok (.lload 5, 2) := by decide +kernel
theorem dX12_mean_103 : decode cX12_mean 103 = .ok (.aload_n 0, 1) := by decide +kernel
theorem dX12_mean_104 : decode cX12_mean 104 = .ok (.iload_n 1, 1) := by decide +kernel
theorem dX12_mean_105 : decode cX12_mean 105 = .ok (.iload_n 2, 1) := by decide +kernel
theorem dX12_mean_106 : decode cX12_mean 106 = .ok (.iload 7, 2) := by decide +kernel
theorem dX12_mean_108 : decode cX12_mean 108 = .ok (.invokevirtual 298, 3) := by decide +kernel
theorem dX12_mean_111 : decode cX12_mean 111 = .ok (.i2l, 1) := by decide +kernel
theorem dX12_mean_112 : decode cX12_mean 112 = .ok (.aload_n 0, 1) := by decide +kernel
theorem dX12_mean_113 : decode cX12_mean 113 = .ok (.getfield 322, 3) := by decide +kernel
theorem dX12_mean_116 : decode cX12_mean 116 = .ok (.lmul, 1) := by decide +kernel
theorem dX12_mean_117 : decode cX12_mean 117 = .ok (.aload_n 0, 1) := by decide +kernel
theorem dX12_mean_118 : decode cX12_mean 118 = .ok (.invokevirtual 326, 3) := by decide +kernel
theorem dX12_mean_121 : decode cX12_mean 121 = .ok (.i2l, 1) := by decide +kernel
theorem dX12_mean_122 : decode cX12_mean 122 = .ok (.iload 4, 2) := by decide +kernel
theorem dX12_mean_124 : decode cX12_mean 124 = .ok (.aload_n 0, 1) := by decide +kernel
theorem dX12_mean_125 : decode cX12_mean 125 = .ok (.getfield 319, 3) := by decide +kernel
theorem dX12_mean_128 : decode cX12_mean 128 = .ok (.isub, 1) := by decide +kernel
theorem dX12_mean_129 : decode cX12_mean 129 = .ok (.invokestatic 335, 3) := by decide +kernel
theorem dX12_mean_132 : decode cX12_mean 132 = .ok (.lmul, 1) := by decide +kernel
theorem dX12_mean_133 : decode cX12_mean 133 = .ok (.ladd, 1) := by decide +kernel
theorem dX12_mean_134 : decode cX12_mean 134 = .ok (.lstore 5, 2) := by decide +kernel
theorem dX12_mean_136 : decode cX12_mean 136 = .ok (.iinc 7 1, 3) := by decide +kernel
theorem dX12_mean_139 : decode cX12_mean 139 = .ok (.goto (-55), 3) := by decide +kernel
theorem dX12_mean_142 : decode cX12_mean 142 = .ok (.lload 5, 2) := by decide +kernel
theorem dX12_mean_144 : decode cX12_mean 144 = .ok (.aload_n 0, 1) := by decide +kernel
theorem dX12_mean_145 : decode cX12_mean 145 = .ok (.invokevirtual 326, 3) := by decide +kernel
theorem dX12_mean_148 : decode cX12_mean 148 = .ok (.i2l, 1) := by decide +kernel
theorem dX12_mean_149 : decode cX12_mean 149 = .ok (.iload 4, 2) := by decide +kernel
theorem dX12_mean_151 : decode cX12_mean 151 = .ok (.invokestatic 335, 3) := by decide +kernel
theorem dX12_mean_154 : decode cX12_mean 154 = .ok (.iload_n 3, 1) := by decide +kernel
theorem dX12_mean_155 : decode cX12_mean 155 = .ok (.invokestatic 339, 3) := by decide +kernel
theorem dX12_mean_158 : decode cX12_mean 158 = .ok (.lreturn, 1) := by decide +kernel
theorem dX12_keepsSorts_0 : decode cX12_keepsSorts 0 = .ok (.iconst 0, 1) := by decide +kernel
theorem dX12_keepsSorts_1 : decode cX12_keepsSorts 1 = .ok (.istore_n 1, 1) := by decide +kernel
theorem dX12_keepsSorts_2 : decode cX12_keepsSorts 2 = .ok (.iload_n 1, 1) := by decide +kernel
theorem dX12_keepsSorts_3 : decode cX12_keepsSorts 3 = .ok (.bipush 48, 2) := by decide +kernel
theorem dX12_keepsSorts_5 : decode cX12_keepsSorts 5 = .ok (.if_icmp .ge 21, 3) := by decide +kernel
theorem dX12_keepsSorts_8 : decode cX12_keepsSorts 8 = .ok (.aload_n 0, 1) := by decide +kernel
theorem dX12_keepsSorts_9 : decode cX12_keepsSorts 9 = .ok (.getfield 141, 3) := by decide +kernel
theorem dX12_keepsSorts_12 : decode cX12_keepsSorts 12 = .ok (.iload_n 1, 1) := by decide +kernel
theorem dX12_keepsSorts_13 : decode cX12_keepsSorts 13 = .ok (.aload_n 0, 1) := by decide +kernel
theorem dX12_keepsSorts_14 : decode cX12_keepsSorts 14 = .ok (.getfield 34, 3) := by decide +kernel
theorem dX12_keepsSorts_17 : decode cX12_keepsSorts 17 = .ok (.iload_n 1, 1) := by decide +kernel
theorem dX12_keepsSorts_18 : decode cX12_keepsSorts 18 = .ok (.iaload, 1) := by decide +kernel
theorem dX12_keepsSorts_19 : decode cX12_keepsSorts 19 = .ok (.iastore, 1) := by decide +kernel
theorem dX12_keepsSorts_20 : decode cX12_keepsSorts 20 = .ok (.iinc 1 1, 3) := by decide +kernel
theorem dX12_keepsSorts_23 : decode cX12_keepsSorts 23 = .ok (.goto (-21), 3) := by decide +kernel
theorem dX12_keepsSorts_26 : decode cX12_keepsSorts 26 = .ok (.return_, 1) := by decide +kernel
theorem dX12_laysSorts_0 : decode cX12_laysSorts 0 = .ok (.iconst 0, 1) := by decide +kernel
theorem dX12_laysSorts_1 : decode cX12_laysSorts 1 = .ok (.istore_n 1, 1) := by decide +kernel
theorem dX12_laysSorts_2 : decode cX12_laysSorts 2 = .ok (.iload_n 1, 1) := by decide +kernel
theorem dX12_laysSorts_3 : decode cX12_laysSorts 3 = .ok (.bipush 48, 2) := by decide +kernel
theorem dX12_laysSorts_5 : decode cX12_laysSorts 5 = .ok (.if_icmp .ge 21, 3) := by decide +kernel
theorem dX12_laysSorts_8 : decode cX12_laysSorts 8 = .ok (.aload_n 0, 1) := by decide +kernel
theorem dX12_laysSorts_9 : decode cX12_laysSorts 9 = .ok (.getfield 34, 3) := by decide +kernel
theorem dX12_laysSorts_12 : decode cX12_laysSorts 12 = .ok (.iload_n 1, 1) := by decide +kernel
theorem dX12_laysSorts_13 : decode cX12_laysSorts 13 = .ok (.aload_n 0, 1) := by decide +kernel
theorem dX12_laysSorts_14 : decode cX12_laysSorts 14 = .ok (.getfield 141, 3) := by decide +kernel
theorem dX12_laysSorts_17 : decode cX12_laysSorts 17 = .ok (.iload_n 1, 1) := by decide +kernel
theorem dX12_laysSorts_18 : decode cX12_laysSorts 18 = .ok (.iaload, 1) := by decide +kernel
theorem dX12_laysSorts_19 : decode cX12_laysSorts 19 = .ok (.iastore, 1) := by decide +kernel
theorem dX12_laysSorts_20 : decode cX12_laysSorts 20 = .ok (.iinc 1 1, 3) := by decide +kernel
theorem dX12_laysSorts_23 : decode cX12_laysSorts 23 = .ok (.goto (-21), 3) := by decide +kernel
theorem dX12_laysSorts_26 : decode cX12_laysSorts 26 = .ok (.return_, 1) := by decide +kernel
theorem dX12_tall_0 : decode cX12_tall 0 = .ok (.iload_n 1, 1) := by decide +kernel
theorem dX12_tall_1 : decode cX12_tall 1 = .ok (.iconst 0, 1) := by decide +kernel
theorem dX12_tall_2 : decode cX12_tall 2 = .ok (.iconst 3, 1) := by decide +kernel
theorem dX12_tall_3 : decode cX12_tall 3 = .ok (.invokestatic 159, 3) := by decide +kernel
theorem dX12_tall_6 : decode cX12_tall 6 = .ok (.ifCond .ne 6, 3) := by decide +kernel
theorem dX12_tall_9 : decode cX12_tall 9 = .ok (.bipush (-2), 2) := by decide +kernel
theorem dX12_tall_11 : decode cX12_tall 11 = .ok (.ireturn, 1) := by decide +kernel
theorem dX12_tall_12 : decode cX12_tall 12 = .ok (.aload_n 0, 1) := by decide +kernel
theorem dX12_tall_13 : decode cX12_tall 13 = .ok (.invokevirtual 343, 3) := by decide +kernel
theorem dX12_tall_16 : decode cX12_tall 16 = .ok (.iconst 0, 1) := by decide +kernel
theorem dX12_tall_17 : decode cX12_tall 17 = .ok (.istore_n 2, 1) := by decide +kernel
theorem dX12_tall_18 : decode cX12_tall 18 = .ok (.iload_n 2, 1) := by decide +kernel
theorem dX12_tall_19 : decode cX12_tall 19 = .ok (.bipush 48, 2) := by decide +kernel
theorem dX12_tall_21 : decode cX12_tall 21 = .ok (.if_icmp .ge 16, 3) := by decide +kernel
theorem dX12_tall_24 : decode cX12_tall 24 = .ok (.aload_n 0, 1) := by decide +kernel
theorem dX12_tall_25 : decode cX12_tall 25 = .ok (.getfield 34, 3) := by decide +kernel
theorem dX12_tall_28 : decode cX12_tall 28 = .ok (.iload_n 2, 1) := by decide +kernel
theorem dX12_tall_29 : decode cX12_tall 29 = .ok (.iload_n 1, 1) := by decide +kernel
theorem dX12_tall_30 : decode cX12_tall 30 = .ok (.iastore, 1) := by decide +kernel
theorem dX12_tall_31 : decode cX12_tall 31 = .ok (.iinc 2 1, 3) := by decide +kernel
theorem dX12_tall_34 : decode cX12_tall 34 = .ok (.goto (-16), 3) := by decide +kernel
theorem dX12_tall_37 : decode cX12_tall 37 = .ok (.aload_n 0, 1) := by decide +kernel
theorem dX12_tall_38 : decode cX12_tall 38 = .ok (.invokevirtual 346, 3) := by decide +kernel
theorem dX12_tall_41 : decode cX12_tall 41 = .ok (.istore_n 2, 1) := by decide +kernel
theorem dX12_tall_42 : decode cX12_tall 42 = .ok (.aload_n 0, 1) := by decide +kernel
theorem dX12_tall_43 : decode cX12_tall 43 = .ok (.invokevirtual 349, 3) := by decide +kernel
theorem dX12_tall_46 : decode cX12_tall 46 = .ok (.iload_n 2, 1) := by decide +kernel
theorem dX12_tall_47 : decode cX12_tall 47 = .ok (.ireturn, 1) := by decide +kernel
theorem dX12_raises_0 : decode cX12_raises 0 = .ok (.iload_n 2, 1) := by decide +kernel
theorem dX12_raises_1 : decode cX12_raises 1 = .ok (.istore_n 3, 1) := by decide +kernel
theorem dX12_raises_2 : decode cX12_raises 2 = .ok (.iload_n 3, 1) := by decide +kernel
theorem dX12_raises_3 : decode cX12_raises 3 = .ok (.bipush 99, 2) := by decide +kernel
theorem dX12_raises_5 : decode cX12_raises 5 = .ok (.if_icmp .gt 26, 3) := by decide +kernel
theorem dX12_raises_8 : decode cX12_raises 8 = .ok (.aload_n 0, 1) := by decide +kernel
theorem dX12_raises_9 : decode cX12_raises 9 = .ok (.getfield 28, 3) := by decide +kernel
theorem dX12_raises_12 : decode cX12_raises 12 = .ok (.iload_n 1, 1) := by decide +kernel
theorem dX12_raises_13 : decode cX12_raises 13 = .ok (.iload_n 3, 1) := by decide +kernel
theorem dX12_raises_14 : decode cX12_raises 14 = .ok (.iastore, 1) := by decide +kernel
theorem dX12_raises_15 : decode cX12_raises 15 = .ok (.aload_n 0, 1) := by decide +kernel
theorem dX12_raises_16 : decode cX12_raises 16 = .ok (.iload_n 1, 1) := by decide +kernel
theorem dX12_raises_17 : decode cX12_raises 17 = .ok (.invokevirtual 313, 3) := by decide +kernel
theorem dX12_raises_20 : decode cX12_raises 20 = .ok (.ifCond .eq 5, 3) := by decide +kernel
theorem dX12_raises_23 : decode cX12_raises 23 = .ok (.iload_n 3, 1) := by decide +kernel
theorem dX12_raises_24 : decode cX12_raises 24 = .ok (.ireturn, 1) := by decide +kernel
theorem dX12_raises_25 : decode cX12_raises 25 = .ok (.iinc 3 1, 3) := by decide +kernel
theorem dX12_raises_28 : decode cX12_raises 28 = .ok (.goto (-26), 3) := by decide +kernel
theorem dX12_raises_31 : decode cX12_raises 31 = .ok (.iconst (-1), 1) := by decide +kernel
theorem dX12_raises_32 : decode cX12_raises 32 = .ok (.ireturn, 1) := by decide +kernel
theorem dX12_needs_0 : decode cX12_needs 0 = .ok (.aload_n 0, 1) := by decide +kernel
theorem dX12_needs_1 : decode cX12_needs 1 = .ok (.iload_n 1, 1) := by decide +kernel
theorem dX12_needs_2 : decode cX12_needs 2 = .ok (.invokevirtual 163, 3) := by decide +kernel
theorem dX12_needs_5 : decode cX12_needs 5 = .ok (.ifCond .ne 6, 3) := by decide +kernel
theorem dX12_needs_8 : decode cX12_needs 8 = .ok (.bipush (-5), 2) := by decide +kernel
theorem dX12_needs_10 : decode cX12_needs 10 = .ok (.ireturn, 1) := by decide +kernel
theorem dX12_needs_11 : decode cX12_needs 11 = .ok (.aload_n 0, 1) := by decide +kernel
theorem dX12_needs_12 : decode cX12_needs 12 = .ok (.invokevirtual 310, 3) := by decide +kernel
theorem dX12_needs_15 : decode cX12_needs 15 = .ok (.aload_n 0, 1) := by decide +kernel
theorem dX12_needs_16 : decode cX12_needs 16 = .ok (.iload_n 1, 1) := by decide +kernel
theorem dX12_needs_17 : decode cX12_needs 17 = .ok (.iconst 0, 1) := by decide +kernel
theorem dX12_needs_18 : decode cX12_needs 18 = .ok (.invokevirtual 352, 3) := by decide +kernel
theorem dX12_needs_21 : decode cX12_needs 21 = .ok (.istore_n 2, 1) := by decide +kernel
theorem dX12_needs_22 : decode cX12_needs 22 = .ok (.aload_n 0, 1) := by decide +kernel
theorem dX12_needs_23 : decode cX12_needs 23 = .ok (.invokevirtual 316, 3) := by decide +kernel
theorem dX12_needs_26 : decode cX12_needs 26 = .ok (.iload_n 2, 1) := by decide +kernel
theorem dX12_needs_27 : decode cX12_needs 27 = .ok (.ireturn, 1) := by decide +kernel
theorem dX12_proof_0 : decode cX12_proof 0 = .ok (.aload_n 0, 1) := by decide +kernel
theorem dX12_proof_1 : decode cX12_proof 1 = .ok (.iload_n 1, 1) := by decide +kernel
theorem dX12_proof_2 : decode cX12_proof 2 = .ok (.invokevirtual 163, 3) := by decide +kernel
theorem dX12_proof_5 : decode cX12_proof 5 = .ok (.ifCond .ne 6, 3) := by decide +kernel
theorem dX12_proof_8 : decode cX12_proof 8 = .ok (.bipush (-5), 2) := by decide +kernel
theorem dX12_proof_10 : decode cX12_proof 10 = .ok (.ireturn, 1) := by decide +kernel
theorem dX12_proof_11 : decode cX12_proof 11 = .ok (.aload_n 0, 1) := by decide +kernel
theorem dX12_proof_12 : decode cX12_proof 12 = .ok (.invokevirtual 310, 3) := by decide +kernel
theorem dX12_proof_15 : decode cX12_proof 15 = .ok (.iconst 0, 1) := by decide +kernel
theorem dX12_proof_16 : decode cX12_proof 16 = .ok (.istore_n 2, 1) := by decide +kernel
theorem dX12_proof_17 : decode cX12_proof 17 = .ok (.iconst 0, 1) := by decide +kernel
theorem dX12_proof_18 : decode cX12_proof 18 = .ok (.istore_n 3, 1) := by decide +kernel
theorem dX12_proof_19 : decode cX12_proof 19 = .ok (.iload_n 3, 1) := by decide +kernel
theorem dX12_proof_20 : decode cX12_proof 20 = .ok (.iload_n 1, 1) := by decide +kernel
theorem dX12_proof_21 : decode cX12_proof 21 = .ok (.if_icmp .gt 21, 3) := by decide +kernel
theorem dX12_proof_24 : decode cX12_proof 24 = .ok (.iload_n 2, 1) := by decide +kernel
theorem dX12_proof_25 : decode cX12_proof 25 = .ok (.iconst (-1), 1) := by decide +kernel
theorem dX12_proof_26 : decode cX12_proof 26 = .ok (.if_icmp .eq 16, 3) := by decide +kernel
theorem dX12_proof_29 : decode cX12_proof 29 = .ok (.aload_n 0, 1) := by decide +kernel
theorem dX12_proof_30 : decode cX12_proof 30 = .ok (.iload_n 3, 1) := by decide +kernel
theorem dX12_proof_31 : decode cX12_proof 31 = .ok (.iload_n 2, 1) := by decide +kernel
theorem dX12_proof_32 : decode cX12_proof 32 = .ok (.invokevirtual 352, 3) := by decide +kernel
theorem dX12_proof_35 : decode cX12_proof 35 = .ok (.istore_n 2, 1) := by decide +kernel
theorem dX12_proof_36 : decode cX12_proof 36 = .ok (.iinc 3 1, 3) := by decide +kernel
theorem dX12_proof_39 : decode cX12_proof 39 = .ok (.goto (-20), 3) := by decide +kernel
theorem dX12_proof_42 : decode cX12_proof 42 = .ok (.aload_n 0, 1) := by decide +kernel
theorem dX12_proof_43 : decode cX12_proof 43 = .ok (.invokevirtual 316, 3) := by decide +kernel
theorem dX12_proof_46 : decode cX12_proof 46 = .ok (.iload_n 2, 1) := by decide +kernel
theorem dX12_proof_47 : decode cX12_proof 47 = .ok (.ireturn, 1) := by decide +kernel
theorem dX12_shifts_0 : decode cX12_shifts 0 = .ok (.iload_n 1, 1) := by decide +kernel
theorem dX12_shifts_1 : decode cX12_shifts 1 = .ok (.iconst 0, 1) := by decide +kernel
theorem dX12_shifts_2 : decode cX12_shifts 2 = .ok (.iconst 1, 1) := by decide +kernel
theorem dX12_shifts_3 : decode cX12_shifts 3 = .ok (.invokestatic 159, 3) := by decide +kernel
theorem dX12_shifts_6 : decode cX12_shifts 6 = .ok (.ifCond .ne 6, 3) := by decide +kernel
theorem dX12_shifts_9 : decode cX12_shifts 9 = .ok (.bipush (-2), 2) := by decide +kernel
theorem dX12_shifts_11 : decode cX12_shifts 11 = .ok (.ireturn, 1) := by decide +kernel
theorem dX12_shifts_12 : decode cX12_shifts 12 = .ok (.iconst 0, 1) := by decide +kernel
theorem dX12_shifts_13 : decode cX12_shifts 13 = .ok (.istore_n 2, 1) := by decide +kernel
theorem dX12_shifts_14 : decode cX12_shifts 14 = .ok (.iload_n 2, 1) := by decide +kernel
theorem dX12_shifts_15 : decode cX12_shifts 15 = .ok (.bipush 6, 2) := by decide +kernel
theorem dX12_shifts_17 : decode cX12_shifts 17 = .ok (.if_icmp .ge 21, 3) := by decide +kernel
theorem dX12_shifts_20 : decode cX12_shifts 20 = .ok (.aload_n 0, 1) := by decide +kernel
theorem dX12_shifts_21 : decode cX12_shifts 21 = .ok (.getfield 144, 3) := by decide +kernel
theorem dX12_shifts_24 : decode cX12_shifts 24 = .ok (.iload_n 2, 1) := by decide +kernel
theorem dX12_shifts_25 : decode cX12_shifts 25 = .ok (.aload_n 0, 1) := by decide +kernel
theorem dX12_shifts_26 : decode cX12_shifts 26 = .ok (.getfield 31, 3) := by decide +kernel
theorem dX12_shifts_29 : decode cX12_shifts 29 = .ok (.iload_n 2, 1) := by decide +kernel
theorem dX12_shifts_30 : decode cX12_shifts 30 = .ok (.iaload, 1) := by decide +kernel
theorem dX12_shifts_31 : decode cX12_shifts 31 = .ok (.iastore, 1) := by decide +kernel
theorem dX12_shifts_32 : decode cX12_shifts 32 = .ok (.iinc 2 1, 3) := by decide +kernel
theorem dX12_shifts_35 : decode cX12_shifts 35 = .ok (.goto (-21), 3) := by decide +kernel
theorem dX12_shifts_38 : decode cX12_shifts 38 = .ok (.iconst 0, 1) := by decide +kernel
theorem dX12_shifts_39 : decode cX12_shifts 39 = .ok (.istore_n 2, 1) := by decide +kernel
theorem dX12_shifts_40 : decode cX12_shifts 40 = .ok (.iconst (-1), 1) := by decide +kernel
theorem dX12_shifts_41 : decode cX12_shifts 41 = .ok (.istore_n 3, 1) := by decide +kernel
theorem dX12_shifts_42 : decode cX12_shifts 42 = .ok (.iconst 0, 1) := by decide +kernel
theorem dX12_shifts_43 : decode cX12_shifts 43 = .ok (.istore 4, 2) := by decide +kernel
theorem dX12_shifts_45 : decode cX12_shifts 45 = .ok (.iload 4, 2) := by decide +kernel
theorem dX12_shifts_47 : decode cX12_shifts 47 = .ok (.iconst 1, 1) := by decide +kernel
theorem dX12_shifts_48 : decode cX12_shifts 48 = .ok (.aload_n 0, 1) := by decide +kernel
theorem dX12_shifts_49 : decode cX12_shifts 49 = .ok (.getfield 156, 3) := by decide +kernel
theorem dX12_shifts_52 : decode cX12_shifts 52 = .ok (.ishl, 1) := by decide +kernel
theorem dX12_shifts_53 : decode cX12_shifts 53 = .ok (.if_icmp .ge 59, 3) := by decide +kernel
theorem dX12_shifts_56 : decode cX12_shifts 56 = .ok (.iconst 0, 1) := by decide +kernel
theorem dX12_shifts_57 : decode cX12_shifts 57 = .ok (.istore 5, 2) := by decide +kernel
theorem dX12_shifts_59 : decode cX12_shifts 59 = .ok (.iload 5, 2) := by decide +kernel
theorem dX12_shifts_61 : decode cX12_shifts 61 = .ok (.aload_n 0, 1) := by decide +kernel
theorem dX12_shifts_62 : decode cX12_shifts 62 = .ok (.getfield 156, 3) := by decide +kernel
theorem dX12_shifts_65 : decode cX12_shifts 65 = .ok (.if_icmp .ge 23, 3) := by decide +kernel
theorem dX12_shifts_68 : decode cX12_shifts 68 = .ok (.aload_n 0, 1) := by decide +kernel
theorem dX12_shifts_69 : decode cX12_shifts 69 = .ok (.getfield 31, 3) := by decide +kernel
theorem dX12_shifts_72 : decode cX12_shifts 72 = .ok (.iload 5, 2) := by decide +kernel
theorem dX12_shifts_74 : decode cX12_shifts 74 = .ok (.iload 4, 2) := by decide +kernel
theorem dX12_shifts_76 : decode cX12_shifts 76 = .ok (.iload 5, 2) := by decide +kernel
theorem dX12_shifts_78 : decode cX12_shifts 78 = .ok (.ishr, 1) := by decide +kernel
theorem dX12_shifts_79 : decode cX12_shifts 79 = .ok (.iconst 1, 1) := by decide +kernel
theorem dX12_shifts_80 : decode cX12_shifts 80 = .ok (.iand, 1) := by decide +kernel
theorem dX12_shifts_81 : decode cX12_shifts 81 = .ok (.iastore, 1) := by decide +kernel
theorem dX12_shifts_82 : decode cX12_shifts 82 = .ok (.iinc 5 1, 3) := by decide +kernel
theorem dX12_shifts_85 : decode cX12_shifts 85 = .ok (.goto (-26), 3) := by decide +kernel
theorem dX12_shifts_88 : decode cX12_shifts 88 = .ok (.aload_n 0, 1) := by decide +kernel
theorem dX12_shifts_89 : decode cX12_shifts 89 = .ok (.invokevirtual 346, 3) := by decide +kernel
theorem dX12_shifts_92 : decode cX12_shifts 92 = .ok (.istore 5, 2) := by decide +kernel
theorem dX12_shifts_94 : decode cX12_shifts 94 = .ok (.iload 5, 2) := by decide +kernel
theorem dX12_shifts_96 : decode cX12_shifts 96 = .ok (.iload_n 3, 1) := by decide +kernel
theorem dX12_shifts_97 : decode cX12_shifts 97 = .ok (.if_icmp .le 9, 3) := by decide +kernel
theorem dX12_shifts_100 : decode cX12_shifts 100 = .ok (.iload 4, 2) := by decide +kernel
theorem dX12_shifts_102 : decode cX12_shifts 102 = .ok (.istore_n 2, 1) := by decide +kernel
theorem dX12_shifts_103 : decode cX12_shifts 103 = .ok (.iload 5, 2) := by decide +kernel
theorem dX12_shifts_105 : decode cX12_shifts 105 = .ok (.istore_n 3, 1) := by decide +kernel
theorem dX12_shifts_106 : decode cX12_shifts 106 = .ok (.iinc 4 1, 3) := by decide +kernel
theorem dX12_shifts_109 : decode cX12_shifts 109 = .ok (.goto (-64), 3) := by decide +kernel
theorem dX12_shifts_112 : decode cX12_shifts 112 = .ok (.iconst 0, 1) := by decide +kernel
theorem dX12_shifts_113 : decode cX12_shifts 113 = .ok (.istore 4, 2) := by decide +kernel
theorem dX12_shifts_115 : decode cX12_shifts 115 = .ok (.iload 4, 2) := by decide +kernel
theorem dX12_shifts_117 : decode cX12_shifts 117 = .ok (.bipush 6, 2) := by decide +kernel
theorem dX12_shifts_119 : decode cX12_shifts 119 = .ok (.if_icmp .ge 23, 3) := by decide +kernel
theorem dX12_shifts_122 : decode cX12_shifts 122 = .ok (.aload_n 0, 1) := by decide +kernel
theorem dX12_shifts_123 : decode cX12_shifts 123 = .ok (.getfield 31, 3) := by decide +kernel
theorem dX12_shifts_126 : decode cX12_shifts 126 = .ok (.iload 4, 2) := by decide +kernel
theorem dX12_shifts_128 : decode cX12_shifts 128 = .ok (.aload_n 0, 1) := by decide +kernel
theorem dX12_shifts_129 : decode cX12_shifts 129 = .ok (.getfield 144, 3) := by decide +kernel
theorem dX12_shifts_132 : decode cX12_shifts 132 = .ok (.iload 4, 2) := by decide +kernel
theorem dX12_shifts_134 : decode cX12_shifts 134 = .ok (.iaload, 1) := by decide +kernel
theorem dX12_shifts_135 : decode cX12_shifts 135 = .ok (.iastore, 1) := by decide +kernel
theorem dX12_shifts_136 : decode cX12_shifts 136 = .ok (.iinc 4 1, 3) := by decide +kernel
theorem dX12_shifts_139 : decode cX12_shifts 139 = .ok (.goto (-24), 3) := by decide +kernel
theorem dX12_shifts_142 : decode cX12_shifts 142 = .ok (.iload_n 1, 1) := by decide +kernel
theorem dX12_shifts_143 : decode cX12_shifts 143 = .ok (.ifCond .ne 7, 3) := by decide +kernel
theorem dX12_shifts_146 : decode cX12_shifts 146 = .ok (.iload_n 2, 1) := by decide +kernel
theorem dX12_shifts_147 : decode cX12_shifts 147 = .ok (.goto 4, 3) := by decide +kernel
theorem dX12_shifts_150 : decode cX12_shifts 150 = .ok (.iload_n 3, 1) := by decide +kernel
theorem dX12_shifts_151 : decode cX12_shifts 151 = .ok (.ireturn, 1) := by decide +kernel
theorem dX12_coin_0 : decode cX12_coin 0 = .ok (.iload_n 1, 1) := by decide +kernel
theorem dX12_coin_1 : decode cX12_coin 1 = .ok (.iconst 0, 1) := by decide +kernel
theorem dX12_coin_2 : decode cX12_coin 2 = .ok (.ldc_w 355, 3) := by decide +kernel
theorem dX12_coin_5 : decode cX12_coin 5 = .ok (.invokestatic 159, 3) := by decide +kernel
theorem dX12_coin_8 : decode cX12_coin 8 = .ok (.ifCond .eq 12, 3) := by decide +kernel
theorem dX12_coin_11 : decode cX12_coin 11 = .ok (.iload_n 2, 1) := by decide +kernel
theorem dX12_coin_12 : decode cX12_coin 12 = .ok (.iconst 0, 1) := by decide +kernel
theorem dX12_coin_13 : decode cX12_coin 13 = .ok (.iconst 1, 1) := by decide +kernel
theorem dX12_coin_14 : decode cX12_coin 14 = .ok (.invokestatic 159, 3) := by decide +kernel
theorem dX12_coin_17 : decode cX12_coin 17 = .ok (.ifCond .ne 6, 3) := by decide +kernel
theorem dX12_coin_20 : decode cX12_coin 20 = .ok (.bipush (-2), 2) := by decide +kernel
theorem dX12_coin_22 : decode cX12_coin 22 = .ok (.ireturn, 1) := by decide +kernel
theorem dX12_coin_23 : decode cX12_coin 23 = .ok (.aload_n 0, 1) := by decide +kernel
theorem dX12_coin_24 : decode cX12_coin 24 = .ok (.getfield 156, 3) := by decide +kernel
theorem dX12_coin_27 : decode cX12_coin 27 = .ok (.iconst 4, 1) := by decide +kernel
theorem dX12_coin_28 : decode cX12_coin 28 = .ok (.if_icmp .ge 10, 3) := by decide +kernel
theorem dX12_coin_31 : decode cX12_coin 31 = .ok (.aload_n 0, 1) := by decide +kernel
theorem dX12_coin_32 : decode cX12_coin 32 = .ok (.getfield 156, 3) := by decide +kernel
theorem dX12_coin_35 : decode cX12_coin 35 = .ok (.goto 4, 3) := by decide +kernel
theorem dX12_coin_38 : decode cX12_coin 38 = .ok (.iconst 4, 1) := by decide +kernel
theorem dX12_coin_39 : decode cX12_coin 39 = .ok (.istore_n 3, 1) := by decide +kernel
theorem dX12_coin_40 : decode cX12_coin 40 = .ok (.iconst 1, 1) := by decide +kernel
theorem dX12_coin_41 : decode cX12_coin 41 = .ok (.istore 4, 2) := by decide +kernel
theorem dX12_coin_43 : decode cX12_coin 43 = .ok (.iconst 0, 1) := by decide +kernel
theorem dX12_coin_44 : decode cX12_coin 44 = .ok (.istore 5, 2) := by decide +kernel
theorem dX12_coin_46 : decode cX12_coin 46 = .ok (.iload 5, 2) := by decide +kernel
theorem dX12_coin_48 : decode cX12_coin 48 = .ok (.iload_n 3, 1) := by decide +kernel
theorem dX12_coin_49 : decode cX12_coin 49 = .ok (.if_icmp .ge 15, 3) := by decide +kernel
theorem dX12_coin_52 : decode cX12_coin 52 = .ok (.iload 4, 2) := by decide +kernel
theorem dX12_coin_54 : decode cX12_coin 54 = .ok (.iconst 3, 1) := by decide +kernel
theorem dX12_coin_55 : decode cX12_coin 55 = .ok (.imul, 1) := by decide +kernel
theorem dX12_coin_56 : decode cX12_coin 56 = .ok (.istore 4, 2) := by decide +kernel
theorem dX12_coin_58 : decode cX12_coin 58 = .ok (.iinc 5 1, 3) := by decide +kernel
theorem dX12_coin_61 : decode cX12_coin 61 = .ok (.goto (-15), 3) := by decide +kernel
theorem dX12_coin_64 : decode cX12_coin 64 = .ok (.aload_n 0, 1) := by decide +kernel
theorem dX12_coin_65 : decode cX12_coin 65 = .ok (.invokevirtual 310, 3) := by decide +kernel
theorem dX12_coin_68 : decode cX12_coin 68 = .ok (.iconst (-1), 1) := by decide +kernel
theorem dX12_coin_69 : decode cX12_coin 69 = .ok (.istore 5, 2) := by decide +kernel
theorem dX12_coin_71 : decode cX12_coin 71 = .ok (.iconst 0, 1) := by decide +kernel
theorem dX12_coin_72 : decode cX12_coin 72 = .ok (.istore 6, 2) := by decide +kernel
theorem dX12_coin_74 : decode cX12_coin 74 = .ok (.iconst 0, 1) := by decide +kernel
theorem dX12_coin_75 : decode cX12_coin 75 = .ok (.istore 7, 2) := by decide +kernel
theorem dX12_coin_77 : decode cX12_coin 77 = .ok (.iload 7, 2) := by decide +kernel
theorem dX12_coin_79 : decode cX12_coin 79 = .ok (.iload 4, 2) := by decide +kernel
theorem dX12_coin_81 : decode cX12_coin 81 = .ok (.if_icmp .ge 109, 3) := by decide +kernel
theorem dX12_coin_84 : decode cX12_coin 84 = .ok (.iload 7, 2) := by decide +kernel
theorem dX12_coin_86 : decode cX12_coin 86 = .ok (.istore 8, 2) := by decide +kernel
theorem dX12_coin_88 : decode cX12_coin 88 = .ok (.iconst 0, 1) := by decide +kernel
theorem dX12_coin_89 : decode cX12_coin 89 = .ok (.istore 9, 2) := by decide +kernel
theorem dX12_coin_91 : decode cX12_coin 91 = .ok (.iconst 1, 1) := by decide +kernel
theorem dX12_coin_92 : decode cX12_coin 92 = .ok (.istore 10, 2) := by decide +kernel
theorem dX12_coin_94 : decode cX12_coin 94 = .ok (.iload_n 3, 1) := by decide +kernel
theorem dX12_coin_95 : decode cX12_coin 95 = .ok (.iconst 1, 1) := by decide +kernel
theorem dX12_coin_96 : decode cX12_coin 96 = .ok (.isub, 1) := by decide +kernel
theorem dX12_coin_97 : decode cX12_coin 97 = .ok (.istore 11, 2) := by decide +kernel
theorem dX12_coin_99 : decode cX12_coin 99 = .ok (.iload 11, 2) := by decide +kernel
theorem dX12_coin_101 : decode cX12_coin 101 = .ok (.ifCond .lt 48, 3) := by decide +kernel
theorem dX12_coin_104 : decode cX12_coin 104 = .ok (.aload_n 0, 1) := by decide +kernel
theorem dX12_coin_105 : decode cX12_coin 105 = .ok (.getfield 28, 3) := by decide +kernel
theorem dX12_coin_108 : decode cX12_coin 108 = .ok (.iload 11, 2) := by decide +kernel
theorem dX12_coin_110 : decode cX12_coin 110 = .ok (.bipush 6, 2) := by decide +kernel
theorem dX12_coin_112 : decode cX12_coin 112 = .ok (.iload 8, 2) := by decide +kernel
theorem dX12_coin_114 : decode cX12_coin 114 = .ok (.iconst 3, 1) := by decide +kernel
theorem dX12_coin_115 : decode cX12_coin 115 = .ok (.irem, 1) := by decide +kernel
theorem dX12_coin_116 : decode cX12_coin 116 = .ok (.imul, 1) := by decide +kernel
theorem dX12_coin_117 : decode cX12_coin 117 = .ok (.iastore, 1) := by decide +kernel
theorem dX12_coin_118 : decode cX12_coin 118 = .ok (.iload 9, 2) := by decide +kernel
theorem dX12_coin_120 : decode cX12_coin 120 = .ok (.iload 10, 2) := by decide +kernel
theorem dX12_coin_122 : decode cX12_coin 122 = .ok (.iload 8, 2) := by decide +kernel
theorem dX12_coin_124 : decode cX12_coin 124 = .ok (.iconst 3, 1) := by decide +kernel
theorem dX12_coin_125 : decode cX12_coin 125 = .ok (.irem, 1) := by decide +kernel
theorem dX12_coin_126 : decode cX12_coin 126 = .ok (.imul, 1) := by decide +kernel
theorem dX12_coin_127 : decode cX12_coin 127 = .ok (.iadd, 1) := by decide +kernel
theorem dX12_coin_128 : decode cX12_coin 128 = .ok (.istore 9, 2) := by decide +kernel
theorem dX12_coin_130 : decode cX12_coin 130 = .ok (.iload 10, 2) := by decide +kernel
theorem dX12_coin_132 : decode cX12_coin 132 = .ok (.bipush 10, 2) := by decide +kernel
theorem dX12_coin_134 : decode cX12_coin 134 = .ok (.imul, 1) := by decide +kernel
theorem dX12_coin_135 : decode cX12_coin 135 = .ok (.istore 10, 2) := by decide +kernel
theorem dX12_coin_137 : decode cX12_coin 137 = .ok (.iload 8, 2) := by decide +kernel
theorem dX12_coin_139 : decode cX12_coin 139 = .ok (.iconst 3, 1) := by decide +kernel
theorem dX12_coin_140 : decode cX12_coin 140 = .ok (.idiv, 1) := by decide +kernel
theorem dX12_coin_141 : decode cX12_coin 141 = .ok (.istore 8, 2) := by decide +kernel
theorem dX12_coin_143 : decode cX12_coin 143 = .ok (.iinc 11 (-1), 3) := by decide +kernel
theorem dX12_coin_146 : decode cX12_coin 146 = .ok (.goto (-47), 3) := by decide +kernel
theorem dX12_coin_149 : decode cX12_coin 149 = .ok (.aload_n 0, 1) := by decide +kernel
theorem dX12_coin_150 : decode cX12_coin 150 = .ok (.invokevirtual 356, 3) := by decide +kernel
theorem dX12_coin_153 : decode cX12_coin 153 = .ok (.iload_n 1, 1) := by decide +kernel
theorem dX12_coin_154 : decode cX12_coin 154 = .ok (.if_icmp .gt 30, 3) := by decide +kernel
theorem dX12_coin_157 : decode cX12_coin 157 = .ok (.aload_n 0, 1) := by decide +kernel
theorem dX12_coin_158 : decode cX12_coin 158 = .ok (.invokevirtual 346, 3) := by decide +kernel
theorem dX12_coin_161 : decode cX12_coin 161 = .ok (.istore 11, 2) := by decide +kernel
theorem dX12_coin_163 : decode cX12_coin 163 = .ok (.iload 5, 2) := by decide +kernel
theorem dX12_coin_165 : decode cX12_coin 165 = .ok (.iconst (-1), 1) := by decide +kernel
theorem dX12_coin_166 : decode cX12_coin 166 = .ok (.if_icmp .eq 10, 3) := by decide +kernel
theorem dX12_coin_169 : decode cX12_coin 169 = .ok (.iload 11, 2) := by decide +kernel
theorem dX12_coin_171 : decode cX12_coin 171 = .ok (.iload 6, 2) := by decide +kernel
theorem dX12_coin_173 : decode cX12_coin 173 = .ok (.if_icmp .le 11, 3) := by decide +kernel
theorem dX12_coin_176 : decode cX12_coin 176 = .ok (.iload 9, 2) := by decide +kernel
theorem dX12_coin_178 : decode cX12_coin 178 = .ok (.istore 5, 2) := by decide +kernel
theorem dX12_coin_180 : decode cX12_coin 180 = .ok (.iload 11, 2) := by decide +kernel
theorem dX12_coin_182 : decode cX12_coin 182 = .ok (.istore 6, 2) := by decide +kernel
theorem dX12_coin_184 : decode cX12_coin 184 = .ok (.iinc 7 1, 3) := by decide +kernel
theorem dX12_coin_187 : decode cX12_coin 187 = .ok (.goto (-110), 3) := by decide +kernel
theorem dX12_coin_190 : decode cX12_coin 190 = .ok (.aload_n 0, 1) := by decide +kernel
theorem dX12_coin_191 : decode cX12_coin 191 = .ok (.invokevirtual 316, 3) := by decide +kernel
theorem dX12_coin_194 : decode cX12_coin 194 = .ok (.iload 5, 2) := by decide +kernel
theorem dX12_coin_196 : decode cX12_coin 196 = .ok (.iconst (-1), 1) := by decide +kernel
theorem dX12_coin_197 : decode cX12_coin 197 = .ok (.if_icmp .eq 7, 3) := by decide +kernel
theorem dX12_coin_200 : decode cX12_coin 200 = .ok (.iload_n 2, 1) := by decide +kernel
theorem dX12_coin_201 : decode cX12_coin 201 = .ok (.ifCond .ne 8, 3) := by decide +kernel
theorem dX12_coin_204 : decode cX12_coin 204 = .ok (.iload 5, 2) := by decide +kernel
theorem dX12_coin_206 : decode cX12_coin 206 = .ok (.goto 5, 3) := by decide +kernel
theorem dX12_coin_209 : decode cX12_coin 209 = .ok (.iload 6, 2) := by decide +kernel
theorem dX12_coin_211 : decode cX12_coin 211 = .ok (.ireturn, 1) := by decide +kernel
theorem dX12_stage_0 : decode cX12_stage 0 = .ok (.iconst 0, 1) := by decide +kernel
theorem dX12_stage_1 : decode cX12_stage 1 = .ok (.istore_n 1, 1) := by decide +kernel
theorem dX12_stage_2 : decode cX12_stage 2 = .ok (.aload_n 0, 1) := by decide +kernel
theorem dX12_stage_3 : decode cX12_stage 3 = .ok (.invokevirtual 346, 3) := by decide +kernel
theorem dX12_stage_6 : decode cX12_stage 6 = .ok (.istore_n 2, 1) := by decide +kernel
theorem dX12_stage_7 : decode cX12_stage 7 = .ok (.iconst 1, 1) := by decide +kernel
theorem dX12_stage_8 : decode cX12_stage 8 = .ok (.istore_n 3, 1) := by decide +kernel
theorem dX12_stage_9 : decode cX12_stage 9 = .ok (.iload_n 3, 1) := by decide +kernel
theorem dX12_stage_10 : decode cX12_stage 10 = .ok (.bipush 10, 2) := by decide +kernel
theorem dX12_stage_12 : decode cX12_stage 12 = .ok (.if_icmp .gt 55, 3) := by decide +kernel
theorem dX12_stage_15 : decode cX12_stage 15 = .ok (.iconst 0, 1) := by decide +kernel
theorem dX12_stage_16 : decode cX12_stage 16 = .ok (.istore 4, 2) := by decide +kernel
theorem dX12_stage_18 : decode cX12_stage 18 = .ok (.iload 4, 2) := by decide +kernel
theorem dX12_stage_20 : decode cX12_stage 20 = .ok (.aload_n 0, 1) := by decide +kernel
theorem dX12_stage_21 : decode cX12_stage 21 = .ok (.getfield 197, 3) := by decide +kernel
theorem dX12_stage_24 : decode cX12_stage 24 = .ok (.if_icmp .ge 20, 3) := by decide +kernel
theorem dX12_stage_27 : decode cX12_stage 27 = .ok (.aload_n 0, 1) := by decide +kernel
theorem dX12_stage_28 : decode cX12_stage 28 = .ok (.getfield 40, 3) := by decide +kernel
theorem dX12_stage_31 : decode cX12_stage 31 = .ok (.iload 4, 2) := by decide +kernel
theorem dX12_stage_33 : decode cX12_stage 33 = .ok (.dup2, 1) := by decide +kernel
theorem dX12_stage_34 : decode cX12_stage 34 = .ok (.iaload, 1) := by decide +kernel
theorem dX12_stage_35 : decode cX12_stage 35 = .ok (.iconst 1, 1) := by decide +kernel
theorem dX12_stage_36 : decode cX12_stage 36 = .ok (.iadd, 1) := by decide +kernel
theorem dX12_stage_37 : decode cX12_stage 37 = .ok (.iastore, 1) := by decide +kernel
theorem dX12_stage_38 : decode cX12_stage 38 = .ok (.iinc 4 1, 3) := by decide +kernel
theorem dX12_stage_41 : decode cX12_stage 41 = .ok (.goto (-23), 3) := by decide +kernel
theorem dX12_stage_44 : decode cX12_stage 44 = .ok (.aload_n 0, 1) := by decide +kernel
theorem dX12_stage_45 : decode cX12_stage 45 = .ok (.invokevirtual 346, 3) := by decide +kernel
theorem dX12_stage_48 : decode cX12_stage 48 = .ok (.istore 4, 2) := by decide +kernel
theorem dX12_stage_50 : decode cX12_stage 50 = .ok (.iload 4, 2) := by decide +kernel
theorem dX12_stage_52 : decode cX12_stage 52 = .ok (.iload_n 2, 1) := by decide +kernel
theorem dX12_stage_53 : decode cX12_stage 53 = .ok (.if_icmp .le 8, 3) := by decide +kernel
theorem dX12_stage_56 : decode cX12_stage 56 = .ok (.iload_n 3, 1) := by decide +kernel
theorem dX12_stage_57 : decode cX12_stage 57 = .ok (.istore_n 1, 1) := by decide +kernel
theorem dX12_stage_58 : decode cX12_stage 58 = .ok (.iload 4, 2) := by decide +kernel
theorem dX12_stage_60 : decode cX12_stage 60 = .ok (.istore_n 2, 1) := by decide +kernel
theorem dX12_stage_61 : decode cX12_stage 61 = .ok (.iinc 3 1, 3) := by decide +kernel
theorem dX12_stage_64 : decode cX12_stage 64 = .ok (.goto (-55), 3) := by decide +kernel
theorem dX12_stage_67 : decode cX12_stage 67 = .ok (.iconst 0, 1) := by decide +kernel
theorem dX12_stage_68 : decode cX12_stage 68 = .ok (.istore_n 3, 1) := by decide +kernel
theorem dX12_stage_69 : decode cX12_stage 69 = .ok (.iload_n 3, 1) := by decide +kernel
theorem dX12_stage_70 : decode cX12_stage 70 = .ok (.aload_n 0, 1) := by decide +kernel
theorem dX12_stage_71 : decode cX12_stage 71 = .ok (.getfield 197, 3) := by decide +kernel
theorem dX12_stage_74 : decode cX12_stage 74 = .ok (.if_icmp .ge 20, 3) := by decide +kernel
theorem dX12_stage_77 : decode cX12_stage 77 = .ok (.aload_n 0, 1) := by decide +kernel
theorem dX12_stage_78 : decode cX12_stage 78 = .ok (.getfield 40, 3) := by decide +kernel
theorem dX12_stage_81 : decode cX12_stage 81 = .ok (.iload_n 3, 1) := by decide +kernel
theorem dX12_stage_82 : decode cX12_stage 82 = .ok (.dup2, 1) := by decide +kernel
theorem dX12_stage_83 : decode cX12_stage 83 = .ok (.iaload, 1) := by decide +kernel
theorem dX12_stage_84 : decode cX12_stage 84 = .ok (.bipush 10, 2) := by decide +kernel
theorem dX12_stage_86 : decode cX12_stage 86 = .ok (.isub, 1) := by decide +kernel
theorem dX12_stage_87 : decode cX12_stage 87 = .ok (.iastore, 1) := by decide +kernel
theorem dX12_stage_88 : decode cX12_stage 88 = .ok (.iinc 3 1, 3) := by decide +kernel
theorem dX12_stage_91 : decode cX12_stage 91 = .ok (.goto (-22), 3) := by decide +kernel
theorem dX12_stage_94 : decode cX12_stage 94 = .ok (.iload_n 1, 1) := by decide +kernel
theorem dX12_stage_95 : decode cX12_stage 95 = .ok (.ireturn, 1) := by decide +kernel
theorem dX12_changes_0 : decode cX12_changes 0 = .ok (.aload_n 0, 1) := by decide +kernel
theorem dX12_changes_1 : decode cX12_changes 1 = .ok (.getfield 34, 3) := by decide +kernel
theorem dX12_changes_4 : decode cX12_changes 4 = .ok (.iload_n 1, 1) := by decide +kernel
theorem dX12_changes_5 : decode cX12_changes 5 = .ok (.iaload, 1) := by decide +kernel
theorem dX12_changes_6 : decode cX12_changes 6 = .ok (.istore_n 3, 1) := by decide +kernel
theorem dX12_changes_7 : decode cX12_changes 7 = .ok (.aload_n 0, 1) := by decide +kernel
theorem dX12_changes_8 : decode cX12_changes 8 = .ok (.getfield 34, 3) := by decide +kernel
theorem dX12_changes_11 : decode cX12_changes 11 = .ok (.iload_n 1, 1) := by decide +kernel
theorem dX12_changes_12 : decode cX12_changes 12 = .ok (.aload_n 0, 1) := by decide +kernel
theorem dX12_changes_13 : decode cX12_changes 13 = .ok (.getfield 34, 3) := by decide +kernel
theorem dX12_changes_16 : decode cX12_changes 16 = .ok (.iload_n 2, 1) := by decide +kernel
theorem dX12_changes_17 : decode cX12_changes 17 = .ok (.iaload, 1) := by decide +kernel
theorem dX12_changes_18 : decode cX12_changes 18 = .ok (.iastore, 1) := by decide +kernel
theorem dX12_changes_19 : decode cX12_changes 19 = .ok (.aload_n 0, 1) := by decide +kernel
theorem dX12_changes_20 : decode cX12_changes 20 = .ok (.getfield 34, 3) := by decide +kernel
theorem dX12_changes_23 : decode cX12_changes 23 = .ok (.iload_n 2, 1) := by decide +kernel
theorem dX12_changes_24 : decode cX12_changes 24 = .ok (.iload_n 3, 1) := by decide +kernel
theorem dX12_changes_25 : decode cX12_changes 25 = .ok (.iastore, 1) := by decide +kernel
theorem dX12_changes_26 : decode cX12_changes 26 = .ok (.return_, 1) := by decide +kernel
theorem dX12_gainBy_0 : decode cX12_gainBy 0 = .ok (.aload_n 0, 1) := by decide +kernel
theorem dX12_gainBy_1 : decode cX12_gainBy 1 = .ok (.invokevirtual 346, 3) := by decide +kernel
theorem dX12_gainBy_4 : decode cX12_gainBy 4 = .ok (.istore_n 3, 1) := by decide +kernel
theorem dX12_gainBy_5 : decode cX12_gainBy 5 = .ok (.aload_n 0, 1) := by decide +kernel
theorem dX12_gainBy_6 : decode cX12_gainBy 6 = .ok (.iload_n 1, 1) := by decide +kernel
theorem dX12_gainBy_7 : decode cX12_gainBy 7 = .ok (.iload_n 2, 1) := by decide +kernel
theorem dX12_gainBy_8 : decode cX12_gainBy 8 = .ok (.invokevirtual 359, 3) := by decide +kernel
theorem dX12_gainBy_11 : decode cX12_gainBy 11 = .ok (.aload_n 0, 1) := by decide +kernel
theorem dX12_gainBy_12 : decode cX12_gainBy 12 = .ok (.invokevirtual 346, 3) := by decide +kernel
theorem dX12_gainBy_15 : decode cX12_gainBy 15 = .ok (.istore 4, 2) := by decide +kernel
theorem dX12_gainBy_17 : decode cX12_gainBy 17 = .ok (.aload_n 0, 1) := by decide +kernel
theorem dX12_gainBy_18 : decode cX12_gainBy 18 = .ok (.iload_n 1, 1) := by decide +kernel
theorem dX12_gainBy_19 : decode cX12_gainBy 19 = .ok (.iload_n 2, 1) := by decide +kernel
theorem dX12_gainBy_20 : decode cX12_gainBy 20 = .ok (.invokevirtual 359, 3) := by decide +kernel
theorem dX12_gainBy_23 : decode cX12_gainBy 23 = .ok (.iload 4, 2) := by decide +kernel
theorem dX12_gainBy_25 : decode cX12_gainBy 25 = .ok (.iload_n 3, 1) := by decide +kernel
theorem dX12_gainBy_26 : decode cX12_gainBy 26 = .ok (.isub, 1) := by decide +kernel
theorem dX12_gainBy_27 : decode cX12_gainBy 27 = .ok (.ireturn, 1) := by decide +kernel
theorem dX12_swap_0 : decode cX12_swap 0 = .ok (.aload_n 0, 1) := by decide +kernel
theorem dX12_swap_1 : decode cX12_swap 1 = .ok (.iload_n 1, 1) := by decide +kernel
theorem dX12_swap_2 : decode cX12_swap 2 = .ok (.iload_n 2, 1) := by decide +kernel
theorem dX12_swap_3 : decode cX12_swap 3 = .ok (.invokevirtual 167, 3) := by decide +kernel
theorem dX12_swap_6 : decode cX12_swap 6 = .ok (.ifCond .eq 33, 3) := by decide +kernel
theorem dX12_swap_9 : decode cX12_swap 9 = .ok (.aload_n 0, 1) := by decide +kernel
theorem dX12_swap_10 : decode cX12_swap 10 = .ok (.iload_n 3, 1) := by decide +kernel
theorem dX12_swap_11 : decode cX12_swap 11 = .ok (.iload 4, 2) := by decide +kernel
theorem dX12_swap_13 : decode cX12_swap 13 = .ok (.invokevirtual 167, 3) := by decide +kernel
theorem dX12_swap_16 : decode cX12_swap 16 = .ok (.ifCond .eq 23, 3) := by decide +kernel
theorem dX12_swap_19 : decode cX12_swap 19 = .ok (.aload_n 0, 1) := by decide +kernel
theorem dX12_swap_20 : decode cX12_swap 20 = .ok (.bipush 8, 2) := by decide +kernel
theorem dX12_swap_22 : decode cX12_swap 22 = .ok (.iload_n 1, 1) := by decide +kernel
theorem dX12_swap_23 : decode cX12_swap 23 = .ok (.imul, 1) := by decide +kernel
theorem dX12_swap_24 : decode cX12_swap 24 = .ok (.iload_n 2, 1) := by decide +kernel
theorem dX12_swap_25 : decode cX12_swap 25 = .ok (.iadd, 1) := by decide +kernel
theorem dX12_swap_26 : decode cX12_swap 26 = .ok (.bipush 8, 2) := by decide +kernel
theorem dX12_swap_28 : decode cX12_swap 28 = .ok (.iload_n 3, 1) := by decide +kernel
theorem dX12_swap_29 : decode cX12_swap 29 = .ok (.imul, 1) := by decide +kernel
theorem dX12_swap_30 : decode cX12_swap 30 = .ok (.iload 4, 2) := by decide +kernel
theorem dX12_swap_32 : decode cX12_swap 32 = .ok (.iadd, 1) := by decide +kernel
theorem dX12_swap_33 : decode cX12_swap 33 = .ok (.invokevirtual 363, 3) := by decide +kernel
theorem dX12_swap_36 : decode cX12_swap 36 = .ok (.goto 6, 3) := by decide +kernel
theorem dX12_swap_39 : decode cX12_swap 39 = .ok (.ldc_w 366, 3) := by decide +kernel
theorem dX12_swap_42 : decode cX12_swap 42 = .ok (.ireturn, 1) := by decide +kernel
theorem dX12_finds_0 : decode cX12_finds 0 = .ok (.aload_n 0, 1) := by decide +kernel
theorem dX12_finds_1 : decode cX12_finds 1 = .ok (.iconst (-1), 1) := by decide +kernel
theorem dX12_finds_2 : decode cX12_finds 2 = .ok (.putfield 367, 3) := by decide +kernel
theorem dX12_finds_5 : decode cX12_finds 5 = .ok (.aload_n 0, 1) := by decide +kernel
theorem dX12_finds_6 : decode cX12_finds 6 = .ok (.iconst 0, 1) := by decide +kernel
theorem dX12_finds_7 : decode cX12_finds 7 = .ok (.putfield 370, 3) := by decide +kernel
theorem dX12_finds_10 : decode cX12_finds 10 = .ok (.iconst 0, 1) := by decide +kernel
theorem dX12_finds_11 : decode cX12_finds 11 = .ok (.istore_n 2, 1) := by decide +kernel
theorem dX12_finds_12 : decode cX12_finds 12 = .ok (.iload_n 2, 1) := by decide +kernel
theorem dX12_finds_13 : decode cX12_finds 13 = .ok (.aload_n 0, 1) := by decide +kernel
theorem dX12_finds_14 : decode cX12_finds 14 = .ok (.getfield 22, 3) := by decide +kernel
theorem dX12_finds_17 : decode cX12_finds 17 = .ok (.iload_n 1, 1) := by decide +kernel
theorem dX12_finds_18 : decode cX12_finds 18 = .ok (.iaload, 1) := by decide +kernel
theorem dX12_finds_19 : decode cX12_finds 19 = .ok (.if_icmp .ge 101, 3) := by decide +kernel
theorem dX12_finds_22 : decode cX12_finds 22 = .ok (.iload_n 2, 1) := by decide +kernel
theorem dX12_finds_23 : decode cX12_finds 23 = .ok (.iconst 1, 1) := by decide +kernel
theorem dX12_finds_24 : decode cX12_finds 24 = .ok (.iadd, 1) := by decide +kernel
theorem dX12_finds_25 : decode cX12_finds 25 = .ok (.istore_n 3, 1) := by decide +kernel
theorem dX12_finds_26 : decode cX12_finds 26 = .ok (.iload_n 3, 1) := by decide +kernel
theorem dX12_finds_27 : decode cX12_finds 27 = .ok (.aload_n 0, 1) := by decide +kernel
theorem dX12_finds_28 : decode cX12_finds 28 = .ok (.getfield 22, 3) := by decide +kernel
theorem dX12_finds_31 : decode cX12_finds 31 = .ok (.iload_n 1, 1) := by decide +kernel
theorem dX12_finds_32 : decode cX12_finds 32 = .ok (.iaload, 1) := by decide +kernel
theorem dX12_finds_33 : decode cX12_finds 33 = .ok (.if_icmp .ge 81, 3) := by decide +kernel
theorem dX12_finds_36 : decode cX12_finds 36 = .ok (.aload_n 0, 1) := by decide +kernel
theorem dX12_finds_37 : decode cX12_finds 37 = .ok (.getfield 34, 3) := by decide +kernel
theorem dX12_finds_40 : decode cX12_finds 40 = .ok (.bipush 8, 2) := by decide +kernel
theorem dX12_finds_42 : decode cX12_finds 42 = .ok (.iload_n 1, 1) := by decide +kernel
theorem dX12_finds_43 : decode cX12_finds 43 = .ok (.imul, 1) := by decide +kernel
theorem dX12_finds_44 : decode cX12_finds 44 = .ok (.iload_n 2, 1) := by decide +kernel
theorem dX12_finds_45 : decode cX12_finds 45 = .ok (.iadd, 1) := by decide +kernel
theorem dX12_finds_46 : decode cX12_finds 46 = .ok (.iaload, 1) := by decide +kernel
theorem dX12_finds_47 : decode cX12_finds 47 = .ok (.aload_n 0, 1) := by decide +kernel
theorem dX12_finds_48 : decode cX12_finds 48 = .ok (.getfield 34, 3) := by decide +kernel
theorem dX12_finds_51 : decode cX12_finds 51 = .ok (.bipush 8, 2) := by decide +kernel
theorem dX12_finds_53 : decode cX12_finds 53 = .ok (.iload_n 1, 1) := by decide +kernel
theorem dX12_finds_54 : decode cX12_finds 54 = .ok (.imul, 1) := by decide +kernel
theorem dX12_finds_55 : decode cX12_finds 55 = .ok (.iload_n 3, 1) := by decide +kernel
theorem dX12_finds_56 : decode cX12_finds 56 = .ok (.iadd, 1) := by decide +kernel
theorem dX12_finds_57 : decode cX12_finds 57 = .ok (.iaload, 1) := by decide +kernel
theorem dX12_finds_58 : decode cX12_finds 58 = .ok (.if_icmp .ne 7, 3) := by decide +kernel
theorem dX12_finds_61 : decode cX12_finds 61 = .ok (.iconst 0, 1) := by decide +kernel
theorem dX12_finds_62 : decode cX12_finds 62 = .ok (.goto 19, 3) := by decide +kernel
theorem dX12_finds_65 : decode cX12_finds 65 = .ok (.aload_n 0, 1) := by decide +kernel
theorem dX12_finds_66 : decode cX12_finds 66 = .ok (.bipush 8, 2) := by decide +kernel
theorem dX12_finds_68 : decode cX12_finds 68 = .ok (.iload_n 1, 1) := by decide +kernel
theorem dX12_finds_69 : decode cX12_finds 69 = .ok (.imul, 1) := by decide +kernel
theorem dX12_finds_70 : decode cX12_finds 70 = .ok (.iload_n 2, 1) := by decide +kernel
theorem dX12_finds_71 : decode cX12_finds 71 = .ok (.iadd, 1) := by decide +kernel
theorem dX12_finds_72 : decode cX12_finds 72 = .ok (.bipush 8, 2) := by decide +kernel
theorem dX12_finds_74 : decode cX12_finds 74 = .ok (.iload_n 1, 1) := by decide +kernel
theorem dX12_finds_75 : decode cX12_finds 75 = .ok (.imul, 1) := by decide +kernel
theorem dX12_finds_76 : decode cX12_finds 76 = .ok (.iload_n 3, 1) := by decide +kernel
theorem dX12_finds_77 : decode cX12_finds 77 = .ok (.iadd, 1) := by decide +kernel
theorem dX12_finds_78 : decode cX12_finds 78 = .ok (.invokevirtual 363, 3) := by decide +kernel
theorem dX12_finds_81 : decode cX12_finds 81 = .ok (.istore 4, 2) := by decide +kernel
theorem dX12_finds_83 : decode cX12_finds 83 = .ok (.iload 4, 2) := by decide +kernel
theorem dX12_finds_85 : decode cX12_finds 85 = .ok (.aload_n 0, 1) := by decide +kernel
theorem dX12_finds_86 : decode cX12_finds 86 = .ok (.getfield 370, 3) := by decide +kernel
theorem dX12_finds_89 : decode cX12_finds 89 = .ok (.if_icmp .le 19, 3) := by decide +kernel
theorem dX12_finds_92 : decode cX12_finds 92 = .ok (.aload_n 0, 1) := by decide +kernel
theorem dX12_finds_93 : decode cX12_finds 93 = .ok (.bipush 10, 2) := by decide +kernel
theorem dX12_finds_95 : decode cX12_finds 95 = .ok (.iload_n 2, 1) := by decide +kernel
theorem dX12_finds_96 : decode cX12_finds 96 = .ok (.imul, 1) := by decide +kernel
theorem dX12_finds_97 : decode cX12_finds 97 = .ok (.iload_n 3, 1) := by decide +kernel
theorem dX12_finds_98 : decode cX12_finds 98 = .ok (.iadd, 1) := by decide +kernel
theorem dX12_finds_99 : decode cX12_finds 99 = .ok (.putfield 367, 3) := by decide +kernel
theorem dX12_finds_102 : decode cX12_finds 102 = .ok (.aload_n 0, 1) := by decide +kernel
theorem dX12_finds_103 : decode cX12_finds 103 = .ok (.iload 4, 2) := by decide +kernel
theorem dX12_finds_105 : decode cX12_finds 105 = .ok (.putfield 370, 3) := by decide +kernel
theorem dX12_finds_108 : decode cX12_finds 108 = .ok (.iinc 3 1, 3) := by decide +kernel
theorem dX12_finds_111 : decode cX12_finds 111 = .ok (.goto (-85), 3) := by decide +kernel
theorem dX12_finds_114 : decode cX12_finds 114 = .ok (.iinc 2 1, 3) := by decide +kernel
theorem dX12_finds_117 : decode cX12_finds 117 = .ok (.goto (-105), 3) := by decide +kernel
theorem dX12_finds_120 : decode cX12_finds 120 = .ok (.return_, 1) := by decide +kernel
theorem dX12_people_0 : decode cX12_people 0 = .ok (.aload_n 0, 1) := by decide +kernel
theorem dX12_people_1 : decode cX12_people 1 = .ok (.iload_n 1, 1) := by decide +kernel
theorem dX12_people_2 : decode cX12_people 2 = .ok (.invokevirtual 163, 3) := by decide +kernel
theorem dX12_people_5 : decode cX12_people 5 = .ok (.ifCond .ne 6, 3) := by decide +kernel
theorem dX12_people_8 : decode cX12_people 8 = .ok (.bipush (-5), 2) := by decide +kernel
theorem dX12_people_10 : decode cX12_people 10 = .ok (.ireturn, 1) := by decide +kernel
theorem dX12_people_11 : decode cX12_people 11 = .ok (.iload_n 2, 1) := by decide +kernel
theorem dX12_people_12 : decode cX12_people 12 = .ok (.iconst 0, 1) := by decide +kernel
theorem dX12_people_13 : decode cX12_people 13 = .ok (.iconst 1, 1) := by decide +kernel
theorem dX12_people_14 : decode cX12_people 14 = .ok (.invokestatic 159, 3) := by decide +kernel
theorem dX12_people_17 : decode cX12_people 17 = .ok (.ifCond .ne 6, 3) := by decide +kernel
theorem dX12_people_20 : decode cX12_people 20 = .ok (.bipush (-7), 2) := by decide +kernel
theorem dX12_people_22 : decode cX12_people 22 = .ok (.ireturn, 1) := by decide +kernel
theorem dX12_people_23 : decode cX12_people 23 = .ok (.aload_n 0, 1) := by decide +kernel
theorem dX12_people_24 : decode cX12_people 24 = .ok (.iload_n 1, 1) := by decide +kernel
theorem dX12_people_25 : decode cX12_people 25 = .ok (.invokevirtual 373, 3) := by decide +kernel
theorem dX12_people_28 : decode cX12_people 28 = .ok (.iload_n 2, 1) := by decide +kernel
theorem dX12_people_29 : decode cX12_people 29 = .ok (.ifCond .ne 10, 3) := by decide +kernel
theorem dX12_people_32 : decode cX12_people 32 = .ok (.aload_n 0, 1) := by decide +kernel
theorem dX12_people_33 : decode cX12_people 33 = .ok (.getfield 367, 3) := by decide +kernel
theorem dX12_people_36 : decode cX12_people 36 = .ok (.goto 7, 3) := by decide +kernel
theorem dX12_people_39 : decode cX12_people 39 = .ok (.aload_n 0, 1) := by decide +kernel
theorem dX12_people_40 : decode cX12_people 40 = .ok (.getfield 370, 3) := by decide +kernel
theorem dX12_people_43 : decode cX12_people 43 = .ok (.ireturn, 1) := by decide +kernel
theorem dX12_settle_0 : decode cX12_settle 0 = .ok (.aload_n 0, 1) := by decide +kernel
theorem dX12_settle_1 : decode cX12_settle 1 = .ok (.iload_n 1, 1) := by decide +kernel
theorem dX12_settle_2 : decode cX12_settle 2 = .ok (.invokevirtual 163, 3) := by decide +kernel
theorem dX12_settle_5 : decode cX12_settle 5 = .ok (.ifCond .ne 6, 3) := by decide +kernel
theorem dX12_settle_8 : decode cX12_settle 8 = .ok (.bipush (-5), 2) := by decide +kernel
theorem dX12_settle_10 : decode cX12_settle 10 = .ok (.ireturn, 1) := by decide +kernel
theorem dX12_settle_11 : decode cX12_settle 11 = .ok (.iload_n 2, 1) := by decide +kernel
theorem dX12_settle_12 : decode cX12_settle 12 = .ok (.iconst 0, 1) := by decide +kernel
theorem dX12_settle_13 : decode cX12_settle 13 = .ok (.iconst 5, 1) := by decide +kernel
theorem dX12_settle_14 : decode cX12_settle 14 = .ok (.invokestatic 159, 3) := by decide +kernel
theorem dX12_settle_17 : decode cX12_settle 17 = .ok (.ifCond .ne 6, 3) := by decide +kernel
theorem dX12_settle_20 : decode cX12_settle 20 = .ok (.bipush (-7), 2) := by decide +kernel
theorem dX12_settle_22 : decode cX12_settle 22 = .ok (.ireturn, 1) := by decide +kernel
theorem dX12_settle_23 : decode cX12_settle 23 = .ok (.iconst 0, 1) := by decide +kernel
theorem dX12_settle_24 : decode cX12_settle 24 = .ok (.istore_n 3, 1) := by decide +kernel
theorem dX12_settle_25 : decode cX12_settle 25 = .ok (.aload_n 0, 1) := by decide +kernel
theorem dX12_settle_26 : decode cX12_settle 26 = .ok (.iload_n 1, 1) := by decide +kernel
theorem dX12_settle_27 : decode cX12_settle 27 = .ok (.invokevirtual 373, 3) := by decide +kernel
theorem dX12_settle_30 : decode cX12_settle 30 = .ok (.iload_n 3, 1) := by decide +kernel
theorem dX12_settle_31 : decode cX12_settle 31 = .ok (.iload_n 2, 1) := by decide +kernel
theorem dX12_settle_32 : decode cX12_settle 32 = .ok (.if_icmp .ge 50, 3) := by decide +kernel
theorem dX12_settle_35 : decode cX12_settle 35 = .ok (.aload_n 0, 1) := by decide +kernel
theorem dX12_settle_36 : decode cX12_settle 36 = .ok (.getfield 367, 3) := by decide +kernel
theorem dX12_settle_39 : decode cX12_settle 39 = .ok (.iconst (-1), 1) := by decide +kernel
theorem dX12_settle_40 : decode cX12_settle 40 = .ok (.if_icmp .eq 42, 3) := by decide +kernel
theorem dX12_settle_43 : decode cX12_settle 43 = .ok (.aload_n 0, 1) := by decide +kernel
theorem dX12_settle_44 : decode cX12_settle 44 = .ok (.bipush 8, 2) := by decide +kernel
theorem dX12_settle_46 : decode cX12_settle 46 = .ok (.iload_n 1, 1) := by decide +kernel
theorem dX12_settle_47 : decode cX12_settle 47 = .ok (.imul, 1) := by decide +kernel
theorem dX12_settle_48 : decode cX12_settle 48 = .ok (.aload_n 0, 1) := by decide +kernel
theorem dX12_settle_49 : decode cX12_settle 49 = .ok (.getfield 367, 3) := by decide +kernel
theorem dX12_settle_52 : decode cX12_settle 52 = .ok (.bipush 10, 2) := by decide +kernel
theorem dX12_settle_54 : decode cX12_settle 54 = .ok (.idiv, 1) := by decide +kernel
theorem dX12_settle_55 : decode cX12_settle 55 = .ok (.iadd, 1) := by decide +kernel
theorem dX12_settle_56 : decode cX12_settle 56 = .ok (.bipush 8, 2) := by decide +kernel
theorem dX12_settle_58 : decode cX12_settle 58 = .ok (.iload_n 1, 1) := by decide +kernel
theorem dX12_settle_59 : decode cX12_settle 59 = .ok (.imul, 1) := by decide +kernel
theorem dX12_settle_60 : decode cX12_settle 60 = .ok (.aload_n 0, 1) := by decide +kernel
theorem dX12_settle_61 : decode cX12_settle 61 = .ok (.getfield 367, 3) := by decide +kernel
theorem dX12_settle_64 : decode cX12_settle 64 = .ok (.bipush 10, 2) := by decide +kernel
theorem dX12_settle_66 : decode cX12_settle 66 = .ok (.irem, 1) := by decide +kernel
theorem dX12_settle_67 : decode cX12_settle 67 = .ok (.iadd, 1) := by decide +kernel
theorem dX12_settle_68 : decode cX12_settle 68 = .ok (.invokevirtual 359, 3) := by decide +kernel
theorem dX12_settle_71 : decode cX12_settle 71 = .ok (.iinc 3 1, 3) := by decide +kernel
theorem dX12_settle_74 : decode cX12_settle 74 = .ok (.aload_n 0, 1) := by decide +kernel
theorem dX12_settle_75 : decode cX12_settle 75 = .ok (.iload_n 1, 1) := by decide +kernel
theorem dX12_settle_76 : decode cX12_settle 76 = .ok (.invokevirtual 373, 3) := by decide +kernel
theorem dX12_settle_79 : decode cX12_settle 79 = .ok (.goto (-49), 3) := by decide +kernel
theorem dX12_settle_82 : decode cX12_settle 82 = .ok (.iload_n 3, 1) := by decide +kernel
theorem dX12_settle_83 : decode cX12_settle 83 = .ok (.ireturn, 1) := by decide +kernel
theorem dX12_hat_0 : decode cX12_hat 0 = .ok (.aload_n 0, 1) := by decide +kernel
theorem dX12_hat_1 : decode cX12_hat 1 = .ok (.iload_n 1, 1) := by decide +kernel
theorem dX12_hat_2 : decode cX12_hat 2 = .ok (.iload_n 2, 1) := by decide +kernel
theorem dX12_hat_3 : decode cX12_hat 3 = .ok (.invokevirtual 167, 3) := by decide +kernel
theorem dX12_hat_6 : decode cX12_hat 6 = .ok (.ifCond .ne 6, 3) := by decide +kernel
theorem dX12_hat_9 : decode cX12_hat 9 = .ok (.bipush (-5), 2) := by decide +kernel
theorem dX12_hat_11 : decode cX12_hat 11 = .ok (.ireturn, 1) := by decide +kernel
theorem dX12_hat_12 : decode cX12_hat 12 = .ok (.iload_n 3, 1) := by decide +kernel
theorem dX12_hat_13 : decode cX12_hat 13 = .ok (.iconst 0, 1) := by decide +kernel
theorem dX12_hat_14 : decode cX12_hat 14 = .ok (.bipush 40, 2) := by decide +kernel
theorem dX12_hat_16 : decode cX12_hat 16 = .ok (.invokestatic 159, 3) := by decide +kernel
theorem dX12_hat_19 : decode cX12_hat 19 = .ok (.ifCond .ne 6, 3) := by decide +kernel
theorem dX12_hat_22 : decode cX12_hat 22 = .ok (.bipush (-7), 2) := by decide +kernel
theorem dX12_hat_24 : decode cX12_hat 24 = .ok (.ireturn, 1) := by decide +kernel
theorem dX12_hat_25 : decode cX12_hat 25 = .ok (.aload_n 0, 1) := by decide +kernel
theorem dX12_hat_26 : decode cX12_hat 26 = .ok (.invokevirtual 346, 3) := by decide +kernel
theorem dX12_hat_29 : decode cX12_hat 29 = .ok (.istore 4, 2) := by decide +kernel
theorem dX12_hat_31 : decode cX12_hat 31 = .ok (.aload_n 0, 1) := by decide +kernel
theorem dX12_hat_32 : decode cX12_hat 32 = .ok (.bipush 8, 2) := by decide +kernel
theorem dX12_hat_34 : decode cX12_hat 34 = .ok (.iload_n 1, 1) := by decide +kernel
theorem dX12_hat_35 : decode cX12_hat 35 = .ok (.imul, 1) := by decide +kernel
theorem dX12_hat_36 : decode cX12_hat 36 = .ok (.iload_n 2, 1) := by decide +kernel
theorem dX12_hat_37 : decode cX12_hat 37 = .ok (.iadd, 1) := by decide +kernel
theorem dX12_hat_38 : decode cX12_hat 38 = .ok (.putfield 65, 3) := by decide +kernel
theorem dX12_hat_41 : decode cX12_hat 41 = .ok (.aload_n 0, 1) := by decide +kernel
theorem dX12_hat_42 : decode cX12_hat 42 = .ok (.iload_n 3, 1) := by decide +kernel
theorem dX12_hat_43 : decode cX12_hat 43 = .ok (.putfield 179, 3) := by decide +kernel
theorem dX12_hat_46 : decode cX12_hat 46 = .ok (.aload_n 0, 1) := by decide +kernel
theorem dX12_hat_47 : decode cX12_hat 47 = .ok (.invokevirtual 346, 3) := by decide +kernel
theorem dX12_hat_50 : decode cX12_hat 50 = .ok (.istore 5, 2) := by decide +kernel
theorem dX12_hat_52 : decode cX12_hat 52 = .ok (.aload_n 0, 1) := by decide +kernel
theorem dX12_hat_53 : decode cX12_hat 53 = .ok (.iconst (-1), 1) := by decide +kernel
theorem dX12_hat_54 : decode cX12_hat 54 = .ok (.putfield 65, 3) := by decide +kernel
theorem dX12_hat_57 : decode cX12_hat 57 = .ok (.iload 4, 2) := by decide +kernel
theorem dX12_hat_59 : decode cX12_hat 59 = .ok (.iload 5, 2) := by decide +kernel
theorem dX12_hat_61 : decode cX12_hat 61 = .ok (.isub, 1) := by decide +kernel
theorem dX12_hat_62 : decode cX12_hat 62 = .ok (.ireturn, 1) := by decide +kernel
theorem dX12_least_0 : decode cX12_least 0 = .ok (.iload_n 1, 1) := by decide +kernel
theorem dX12_least_1 : decode cX12_least 1 = .ok (.iconst 0, 1) := by decide +kernel
theorem dX12_least_2 : decode cX12_least 2 = .ok (.aload_n 0, 1) := by decide +kernel
theorem dX12_least_3 : decode cX12_least 3 = .ok (.getfield 200, 3) := by decide +kernel
theorem dX12_least_6 : decode cX12_least 6 = .ok (.iconst 1, 1) := by decide +kernel
theorem dX12_least_7 : decode cX12_least 7 = .ok (.isub, 1) := by decide +kernel
theorem dX12_least_8 : decode cX12_least 8 = .ok (.invokestatic 159, 3) := by decide +kernel
theorem dX12_least_11 : decode cX12_least 11 = .ok (.ifCond .ne 6, 3) := by decide +kernel
theorem dX12_least_14 : decode cX12_least 14 = .ok (.bipush (-5), 2) := by decide +kernel
theorem dX12_least_16 : decode cX12_least 16 = .ok (.ireturn, 1) := by decide +kernel
theorem dX12_least_17 : decode cX12_least 17 = .ok (.aload_n 0, 1) := by decide +kernel
theorem dX12_least_18 : decode cX12_least 18 = .ok (.getfield 46, 3) := by decide +kernel
theorem dX12_least_21 : decode cX12_least 21 = .ok (.iload_n 1, 1) := by decide +kernel
theorem dX12_least_22 : decode cX12_least 22 = .ok (.iaload, 1) := by decide +kernel
theorem dX12_least_23 : decode cX12_least 23 = .ok (.istore_n 2, 1) := by decide +kernel
theorem dX12_least_24 : decode cX12_least 24 = .ok (.iconst 0, 1) := by decide +kernel
theorem dX12_least_25 : decode cX12_least 25 = .ok (.istore_n 3, 1) := by decide +kernel
theorem dX12_least_26 : decode cX12_least 26 = .ok (.iconst (-1), 1) := by decide +kernel
theorem dX12_least_27 : decode cX12_least 27 = .ok (.istore 4, 2) := by decide +kernel
theorem dX12_least_29 : decode cX12_least 29 = .ok (.iconst 0, 1) := by decide +kernel
theorem dX12_least_30 : decode cX12_least 30 = .ok (.istore 5, 2) := by decide +kernel
theorem dX12_least_32 : decode cX12_least 32 = .ok (.iload 5, 2) := by decide +kernel
theorem dX12_least_34 : decode cX12_least 34 = .ok (.bipush 20, 2) := by decide +kernel
theorem dX12_least_36 : decode cX12_least 36 = .ok (.if_icmp .gt 37, 3) := by decide +kernel
theorem dX12_least_39 : decode cX12_least 39 = .ok (.aload_n 0, 1) := by decide +kernel
theorem dX12_least_40 : decode cX12_least 40 = .ok (.getfield 46, 3) := by decide +kernel
theorem dX12_least_43 : decode cX12_least 43 = .ok (.iload_n 1, 1) := by decide +kernel
theorem dX12_least_44 : decode cX12_least 44 = .ok (.iload 5, 2) := by decide +kernel
theorem dX12_least_46 : decode cX12_least 46 = .ok (.iastore, 1) := by decide +kernel
theorem dX12_least_47 : decode cX12_least 47 = .ok (.aload_n 0, 1) := by decide +kernel
theorem dX12_least_48 : decode cX12_least 48 = .ok (.invokevirtual 346, 3) := by decide +kernel
theorem dX12_least_51 : decode cX12_least 51 = .ok (.istore 6, 2) := by decide +kernel
theorem dX12_least_53 : decode cX12_least 53 = .ok (.iload 6, 2) := by decide +kernel
theorem dX12_least_55 : decode cX12_least 55 = .ok (.iload 4, 2) := by decide +kernel
theorem dX12_least_57 : decode cX12_least 57 = .ok (.if_icmp .le 10, 3) := by decide +kernel
theorem dX12_least_60 : decode cX12_least 60 = .ok (.iload 5, 2) := by decide +kernel
theorem dX12_least_62 : decode cX12_least 62 = .ok (.istore_n 3, 1) := by decide +kernel
theorem dX12_least_63 : decode cX12_least 63 = .ok (.iload 6, 2) := by decide +kernel
theorem dX12_least_65 : decode cX12_least 65 = .ok (.istore 4, 2) := by decide +kernel
theorem dX12_least_67 : decode cX12_least 67 = .ok (.iinc 5 1, 3) := by decide +kernel
theorem dX12_least_70 : decode cX12_least 70 = .ok (.goto (-38), 3) := by decide +kernel
theorem dX12_least_73 : decode cX12_least 73 = .ok (.aload_n 0, 1) := by decide +kernel
theorem dX12_least_74 : decode cX12_least 74 = .ok (.getfield 46, 3) := by decide +kernel
theorem dX12_least_77 : decode cX12_least 77 = .ok (.iload_n 1, 1) := by decide +kernel
theorem dX12_least_78 : decode cX12_least 78 = .ok (.iload_n 2, 1) := by decide +kernel
theorem dX12_least_79 : decode cX12_least 79 = .ok (.iastore, 1) := by decide +kernel
theorem dX12_least_80 : decode cX12_least 80 = .ok (.iload_n 3, 1) := by decide +kernel
theorem dX12_least_81 : decode cX12_least 81 = .ok (.ireturn, 1) := by decide +kernel
theorem dX12_sell_0 : decode cX12_sell 0 = .ok (.iload_n 1, 1) := by decide +kernel
theorem dX12_sell_1 : decode cX12_sell 1 = .ok (.iconst 0, 1) := by decide +kernel
theorem dX12_sell_2 : decode cX12_sell 2 = .ok (.iconst 1, 1) := by decide +kernel
theorem dX12_sell_3 : decode cX12_sell 3 = .ok (.invokestatic 159, 3) := by decide +kernel
theorem dX12_sell_6 : decode cX12_sell 6 = .ok (.ifCond .ne 6, 3) := by decide +kernel
theorem dX12_sell_9 : decode cX12_sell 9 = .ok (.bipush (-2), 2) := by decide +kernel
theorem dX12_sell_11 : decode cX12_sell 11 = .ok (.ireturn, 1) := by decide +kernel
theorem dX12_sell_12 : decode cX12_sell 12 = .ok (.iconst 0, 1) := by decide +kernel
theorem dX12_sell_13 : decode cX12_sell 13 = .ok (.istore_n 2, 1) := by decide +kernel
theorem dX12_sell_14 : decode cX12_sell 14 = .ok (.iload_n 2, 1) := by decide +kernel
theorem dX12_sell_15 : decode cX12_sell 15 = .ok (.sipush 1001, 3) := by decide +kernel
theorem dX12_sell_18 : decode cX12_sell 18 = .ok (.if_icmp .ge 16, 3) := by decide +kernel
theorem dX12_sell_21 : decode cX12_sell 21 = .ok (.aload_n 0, 1) := by decide +kernel
theorem dX12_sell_22 : decode cX12_sell 22 = .ok (.getfield 147, 3) := by decide +kernel
theorem dX12_sell_25 : decode cX12_sell 25 = .ok (.iload_n 2, 1) := by decide +kernel
theorem dX12_sell_26 : decode cX12_sell 26 = .ok (.iconst 0, 1) := by decide +kernel
theorem dX12_sell_27 : decode cX12_sell 27 = .ok (.iastore, 1) := by decide +kernel
theorem dX12_sell_28 : decode cX12_sell 28 = .ok (.iinc 2 1, 3) := by decide +kernel
theorem dX12_sell_31 : decode cX12_sell 31 = .ok (.goto (-17), 3) := by decide +kernel
theorem dX12_sell_34 : decode cX12_sell 34 = .ok (.iconst 0, 1) := by decide +kernel
theorem dX12_sell_35 : decode cX12_sell 35 = .ok (.istore_n 2, 1) := by decide +kernel
theorem dX12_sell_36 : decode cX12_sell 36 = .ok (.iload_n 2, 1) := by decide +kernel
theorem dX12_sell_37 : decode cX12_sell 37 = .ok (.aload_n 0, 1) := by decide +kernel
theorem dX12_sell_38 : decode cX12_sell 38 = .ok (.getfield 156, 3) := by decide +kernel
theorem dX12_sell_41 : decode cX12_sell 41 = .ok (.if_icmp .ge 42, 3) := by decide +kernel
theorem dX12_sell_44 : decode cX12_sell 44 = .ok (.iconst 0, 1) := by decide +kernel
theorem dX12_sell_45 : decode cX12_sell 45 = .ok (.istore_n 3, 1) := by decide +kernel
theorem dX12_sell_46 : decode cX12_sell 46 = .ok (.iload_n 3, 1) := by decide +kernel
theorem dX12_sell_47 : decode cX12_sell 47 = .ok (.aload_n 0, 1) := by decide +kernel
theorem dX12_sell_48 : decode cX12_sell 48 = .ok (.getfield 22, 3) := by decide +kernel
theorem dX12_sell_51 : decode cX12_sell 51 = .ok (.iload_n 2, 1) := by decide +kernel
theorem dX12_sell_52 : decode cX12_sell 52 = .ok (.iaload, 1) := by decide +kernel
theorem dX12_sell_53 : decode cX12_sell 53 = .ok (.if_icmp .ge 24, 3) := by decide +kernel
theorem dX12_sell_56 : decode cX12_sell 56 = .ok (.aload_n 0, 1) := by decide +kernel
theorem dX12_sell_57 : decode cX12_sell 57 = .ok (.getfield 147, 3) := by decide +kernel
theorem dX12_sell_60 : decode cX12_sell 60 = .ok (.aload_n 0, 1) := by decide +kernel
theorem dX12_sell_61 : decode cX12_sell 61 = .ok (.iload_n 2, 1) := by decide +kernel
theorem dX12_sell_62 : decode cX12_sell 62 = .ok (.iload_n 3, 1) := by decide +kernel
theorem dX12_sell_63 : decode cX12_sell 63 = .ok (.invokevirtual 304, 3) := by decide +kernel
theorem dX12_sell_66 : decode cX12_sell 66 = .ok (.dup2, 1) := by decide +kernel
theorem dX12_sell_67 : decode cX12_sell 67 = .ok (.iaload, 1) := by decide +kernel
theorem dX12_sell_68 : decode cX12_sell 68 = .ok (.iconst 1, 1) := by decide +kernel
theorem dX12_sell_69 : decode cX12_sell 69 = .ok (.iadd, 1) := by decide +kernel
theorem dX12_sell_70 : decode cX12_sell 70 = .ok (.iastore, 1) := by decide +kernel
theorem dX12_sell_71 : decode cX12_sell 71 = .ok (.iinc 3 1, 3) := by decide +kernel
theorem dX12_sell_74 : decode cX12_sell 74 = .ok (.goto (-28), 3) := by decide +kernel
theorem dX12_sell_77 : decode cX12_sell 77 = .ok (.iinc 2 1, 3) := by decide +kernel
theorem dX12_sell_80 : decode cX12_sell 80 = .ok (.goto (-44), 3) := by decide +kernel
theorem dX12_sell_83 : decode cX12_sell 83 = .ok (.iconst 0, 1) := by decide +kernel
theorem dX12_sell_84 : decode cX12_sell 84 = .ok (.istore_n 2, 1) := by decide +kernel
theorem dX12_sell_85 : decode cX12_sell 85 = .ok (.iconst 0, 1) := by decide +kernel
theorem dX12_sell_86 : decode cX12_sell 86 = .ok (.istore_n 3, 1) := by decide +kernel
theorem dX12_sell_87 : decode cX12_sell 87 = .ok (.iconst 0, 1) := by decide +kernel
theorem dX12_sell_88 : decode cX12_sell 88 = .ok (.istore 4, 2) := by decide +kernel
theorem dX12_sell_90 : decode cX12_sell 90 = .ok (.sipush 999, 3) := by decide +kernel
theorem dX12_sell_93 : decode cX12_sell 93 = .ok (.istore 5, 2) := by decide +kernel
theorem dX12_sell_95 : decode cX12_sell 95 = .ok (.iload 5, 2) := by decide +kernel
theorem dX12_sell_97 : decode cX12_sell 97 = .ok (.ifCond .le 44, 3) := by decide +kernel
theorem dX12_sell_100 : decode cX12_sell 100 = .ok (.iload 4, 2) := by decide +kernel
theorem dX12_sell_102 : decode cX12_sell 102 = .ok (.aload_n 0, 1) := by decide +kernel
theorem dX12_sell_103 : decode cX12_sell 103 = .ok (.getfield 147, 3) := by decide +kernel
theorem dX12_sell_106 : decode cX12_sell 106 = .ok (.iload 5, 2) := by decide +kernel
theorem dX12_sell_108 : decode cX12_sell 108 = .ok (.iaload, 1) := by decide +kernel
theorem dX12_sell_109 : decode cX12_sell 109 = .ok (.iadd, 1) := by decide +kernel
theorem dX12_sell_110 : decode cX12_sell 110 = .ok (.istore 4, 2) := by decide +kernel
theorem dX12_sell_112 : decode cX12_sell 112 = .ok (.iload 4, 2) := by decide +kernel
theorem dX12_sell_114 : decode cX12_sell 114 = .ok (.ifCond .le 21, 3) := by decide +kernel
theorem dX12_sell_117 : decode cX12_sell 117 = .ok (.iload 5, 2) := by decide +kernel
theorem dX12_sell_119 : decode cX12_sell 119 = .ok (.iload 4, 2) := by decide +kernel
theorem dX12_sell_121 : decode cX12_sell 121 = .ok (.imul, 1) := by decide +kernel
theorem dX12_sell_122 : decode cX12_sell 122 = .ok (.iload_n 3, 1) := by decide +kernel
theorem dX12_sell_123 : decode cX12_sell 123 = .ok (.if_icmp .lt 12, 3) := by decide +kernel
theorem dX12_sell_126 : decode cX12_sell 126 = .ok (.iload 5, 2) := by decide +kernel
theorem dX12_sell_128 : decode cX12_sell 128 = .ok (.istore_n 2, 1) := by decide +kernel
theorem dX12_sell_129 : decode cX12_sell 129 = .ok (.iload 5, 2) := by decide +kernel
theorem dX12_sell_131 : decode cX12_sell 131 = .ok (.iload 4, 2) := by decide +kernel
theorem dX12_sell_133 : decode cX12_sell 133 = .ok (.imul, 1) := by decide +kernel
theorem dX12_sell_134 : decode cX12_sell 134 = .ok (.istore_n 3, 1) := by decide +kernel
theorem dX12_sell_135 : decode cX12_sell 135 = .ok (.iinc 5 (-1), 3) := by decide +kernel
theorem dX12_sell_138 : decode cX12_sell 138 = .ok (.goto (-43), 3) := by decide +kernel
theorem dX12_sell_141 : decode cX12_sell 141 = .ok (.iload_n 1, 1) := by decide +kernel
theorem dX12_sell_142 : decode cX12_sell 142 = .ok (.ifCond .ne 7, 3) := by decide +kernel
theorem dX12_sell_145 : decode cX12_sell 145 = .ok (.iload_n 2, 1) := by decide +kernel
theorem dX12_sell_146 : decode cX12_sell 146 = .ok (.goto 4, 3) := by decide +kernel
theorem dX12_sell_149 : decode cX12_sell 149 = .ok (.iload_n 3, 1) := by decide +kernel
theorem dX12_sell_150 : decode cX12_sell 150 = .ok (.ireturn, 1) := by decide +kernel
theorem dX12_flat_0 : decode cX12_flat 0 = .ok (.iconst 0, 1) := by decide +kernel
theorem dX12_flat_1 : decode cX12_flat 1 = .ok (.istore_n 1, 1) := by decide +kernel
theorem dX12_flat_2 : decode cX12_flat 2 = .ok (.iconst 0, 1) := by decide +kernel
theorem dX12_flat_3 : decode cX12_flat 3 = .ok (.istore_n 2, 1) := by decide +kernel
theorem dX12_flat_4 : decode cX12_flat 4 = .ok (.iload_n 2, 1) := by decide +kernel
theorem dX12_flat_5 : decode cX12_flat 5 = .ok (.aload_n 0, 1) := by decide +kernel
theorem dX12_flat_6 : decode cX12_flat 6 = .ok (.getfield 156, 3) := by decide +kernel
theorem dX12_flat_9 : decode cX12_flat 9 = .ok (.if_icmp .ge 34, 3) := by decide +kernel
theorem dX12_flat_12 : decode cX12_flat 12 = .ok (.iload_n 1, 1) := by decide +kernel
theorem dX12_flat_13 : decode cX12_flat 13 = .ok (.aload_n 0, 1) := by decide +kernel
theorem dX12_flat_14 : decode cX12_flat 14 = .ok (.getfield 28, 3) := by decide +kernel
theorem dX12_flat_17 : decode cX12_flat 17 = .ok (.iload_n 2, 1) := by decide +kernel
theorem dX12_flat_18 : decode cX12_flat 18 = .ok (.iaload, 1) := by decide +kernel
theorem dX12_flat_19 : decode cX12_flat 19 = .ok (.ifCond .le 15, 3) := by decide +kernel
theorem dX12_flat_22 : decode cX12_flat 22 = .ok (.aload_n 0, 1) := by decide +kernel
theorem dX12_flat_23 : decode cX12_flat 23 = .ok (.iload_n 2, 1) := by decide +kernel
theorem dX12_flat_24 : decode cX12_flat 24 = .ok (.invokevirtual 307, 3) := by decide +kernel
theorem dX12_flat_27 : decode cX12_flat 27 = .ok (.ifCond .eq 7, 3) := by decide +kernel
theorem dX12_flat_30 : decode cX12_flat 30 = .ok (.iconst 1, 1) := by decide +kernel
theorem dX12_flat_31 : decode cX12_flat 31 = .ok (.goto 4, 3) := by decide +kernel
theorem dX12_flat_34 : decode cX12_flat 34 = .ok (.iconst 0, 1) := by decide +kernel
theorem dX12_flat_35 : decode cX12_flat 35 = .ok (.iadd, 1) := by decide +kernel
theorem dX12_flat_36 : decode cX12_flat 36 = .ok (.istore_n 1, 1) := by decide +kernel
theorem dX12_flat_37 : decode cX12_flat 37 = .ok (.iinc 2 1, 3) := by decide +kernel
theorem dX12_flat_40 : decode cX12_flat 40 = .ok (.goto (-36), 3) := by decide +kernel
theorem dX12_flat_43 : decode cX12_flat 43 = .ok (.iload_n 1, 1) := by decide +kernel
theorem dX12_flat_44 : decode cX12_flat 44 = .ok (.ireturn, 1) := by decide +kernel
theorem dX12_thursday_0 : decode cX12_thursday 0 = .ok (.iload_n 1, 1) := by decide +kernel
theorem dX12_thursday_1 : decode cX12_thursday 1 = .ok (.iconst 0, 1) := by decide +kernel
theorem dX12_thursday_2 : decode cX12_thursday 2 = .ok (.iconst 3, 1) := by decide +kernel
theorem dX12_thursday_3 : decode cX12_thursday 3 = .ok (.invokestatic 159, 3) := by decide +kernel
theorem dX12_thursday_6 : decode cX12_thursday 6 = .ok (.ifCond .ne 6, 3) := by decide +kernel
theorem dX12_thursday_9 : decode cX12_thursday 9 = .ok (.bipush (-2), 2) := by decide +kernel
theorem dX12_thursday_11 : decode cX12_thursday 11 = .ok (.ireturn, 1) := by decide +kernel
theorem dX12_thursday_12 : decode cX12_thursday 12 = .ok (.aload_n 0, 1) := by decide +kernel
theorem dX12_thursday_13 : decode cX12_thursday 13 = .ok (.getfield 92, 3) := by decide +kernel
theorem dX12_thursday_16 : decode cX12_thursday 16 = .ok (.iload_n 1, 1) := by decide +kernel
theorem dX12_thursday_17 : decode cX12_thursday 17 = .ok (.iaload, 1) := by decide +kernel
theorem dX12_thursday_18 : decode cX12_thursday 18 = .ok (.iconst (-1), 1) := by decide +kernel
theorem dX12_thursday_19 : decode cX12_thursday 19 = .ok (.if_icmp .ne 6, 3) := by decide +kernel
theorem dX12_thursday_22 : decode cX12_thursday 22 = .ok (.bipush (-11), 2) := by decide +kernel
theorem dX12_thursday_24 : decode cX12_thursday 24 = .ok (.ireturn, 1) := by decide +kernel
theorem dX12_thursday_25 : decode cX12_thursday 25 = .ok (.aload_n 0, 1) := by decide +kernel
theorem dX12_thursday_26 : decode cX12_thursday 26 = .ok (.getfield 95, 3) := by decide +kernel
theorem dX12_thursday_29 : decode cX12_thursday 29 = .ok (.iload_n 1, 1) := by decide +kernel
theorem dX12_thursday_30 : decode cX12_thursday 30 = .ok (.iaload, 1) := by decide +kernel
theorem dX12_thursday_31 : decode cX12_thursday 31 = .ok (.aload_n 0, 1) := by decide +kernel
theorem dX12_thursday_32 : decode cX12_thursday 32 = .ok (.getfield 156, 3) := by decide +kernel
theorem dX12_thursday_35 : decode cX12_thursday 35 = .ok (.if_icmp .eq 6, 3) := by decide +kernel
theorem dX12_thursday_38 : decode cX12_thursday 38 = .ok (.bipush (-2), 2) := by decide +kernel
theorem dX12_thursday_40 : decode cX12_thursday 40 = .ok (.ireturn, 1) := by decide +kernel
theorem dX12_thursday_41 : decode cX12_thursday 41 = .ok (.iconst 0, 1) := by decide +kernel
theorem dX12_thursday_42 : decode cX12_thursday 42 = .ok (.istore_n 2, 1) := by decide +kernel
theorem dX12_thursday_43 : decode cX12_thursday 43 = .ok (.iconst 0, 1) := by decide +kernel
theorem dX12_thursday_44 : decode cX12_thursday 44 = .ok (.istore_n 3, 1) := by decide +kernel
theorem dX12_thursday_45 : decode cX12_thursday 45 = .ok (.iload_n 3, 1) := by decide +kernel
theorem dX12_thursday_46 : decode cX12_thursday 46 = .ok (.aload_n 0, 1) := by decide +kernel
theorem dX12_thursday_47 : decode cX12_thursday 47 = .ok (.getfield 156, 3) := by decide +kernel
theorem dX12_thursday_50 : decode cX12_thursday 50 = .ok (.if_icmp .ge 37, 3) := by decide +kernel
theorem dX12_thursday_53 : decode cX12_thursday 53 = .ok (.iload_n 2, 1) := by decide +kernel
theorem dX12_thursday_54 : decode cX12_thursday 54 = .ok (.aload_n 0, 1) := by decide +kernel
theorem dX12_thursday_55 : decode cX12_thursday 55 = .ok (.getfield 98, 3) := by decide +kernel
theorem dX12_thursday_58 : decode cX12_thursday 58 = .ok (.bipush 60, 2) := by decide +kernel
theorem dX12_thursday_60 : decode cX12_thursday 60 = .ok (.iload_n 1, 1) := by decide +kernel
theorem dX12_thursday_61 : decode cX12_thursday 61 = .ok (.imul, 1) := by decide +kernel
theorem dX12_thursday_62 : decode cX12_thursday 62 = .ok (.iload_n 3, 1) := by decide +kernel
theorem dX12_thursday_63 : decode cX12_thursday 63 = .ok (.iadd, 1) := by decide +kernel
theorem dX12_thursday_64 : decode cX12_thursday 64 = .ok (.iaload, 1) := by decide +kernel
theorem dX12_thursday_65 : decode cX12_thursday 65 = .ok (.aload_n 0, 1) := by decide +kernel
theorem dX12_thursday_66 : decode cX12_thursday 66 = .ok (.getfield 28, 3) := by decide +kernel
theorem dX12_thursday_69 : decode cX12_thursday 69 = .ok (.iload_n 3, 1) := by decide +kernel
theorem dX12_thursday_70 : decode cX12_thursday 70 = .ok (.iaload, 1) := by decide +kernel
theorem dX12_thursday_71 : decode cX12_thursday 71 = .ok (.if_icmp .ne 7, 3) := by decide +kernel
theorem dX12_thursday_74 : decode cX12_thursday 74 = .ok (.iconst 0, 1) := by decide +kernel
theorem dX12_thursday_75 : decode cX12_thursday 75 = .ok (.goto 4, 3) := by decide +kernel
theorem dX12_thursday_78 : decode cX12_thursday 78 = .ok (.iconst 1, 1) := by decide +kernel
theorem dX12_thursday_79 : decode cX12_thursday 79 = .ok (.iadd, 1) := by decide +kernel
theorem dX12_thursday_80 : decode cX12_thursday 80 = .ok (.istore_n 2, 1) := by decide +kernel
theorem dX12_thursday_81 : decode cX12_thursday 81 = .ok (.iinc 3 1, 3) := by decide +kernel
theorem dX12_thursday_84 : decode cX12_thursday 84 = .ok (.goto (-39), 3) := by decide +kernel
theorem dX12_thursday_87 : decode cX12_thursday 87 = .ok (.iload_n 2, 1) := by decide +kernel
theorem dX12_thursday_88 : decode cX12_thursday 88 = .ok (.ireturn, 1) := by decide +kernel
theorem dX12_image_0 : decode cX12_image 0 = .ok (.aload_n 0, 1) := by decide +kernel
theorem dX12_image_1 : decode cX12_image 1 = .ok (.iconst 1, 1) := by decide +kernel
theorem dX12_image_2 : decode cX12_image 2 = .ok (.putfield 376, 3) := by decide +kernel
theorem dX12_image_5 : decode cX12_image 5 = .ok (.aload_n 0, 1) := by decide +kernel
theorem dX12_image_6 : decode cX12_image 6 = .ok (.aload_n 0, 1) := by decide +kernel
theorem dX12_image_7 : decode cX12_image 7 = .ok (.getfield 156, 3) := by decide +kernel
theorem dX12_image_10 : decode cX12_image 10 = .ok (.putfield 380, 3) := by decide +kernel
theorem dX12_image_13 : decode cX12_image 13 = .ok (.aload_n 0, 1) := by decide +kernel
theorem dX12_image_14 : decode cX12_image 14 = .ok (.aload_n 0, 1) := by decide +kernel
theorem dX12_image_15 : decode cX12_image 15 = .ok (.getfield 200, 3) := by decide +kernel
theorem dX12_image_18 : decode cX12_image 18 = .ok (.putfield 383, 3) := by decide +kernel
theorem dX12_image_21 : decode cX12_image 21 = .ok (.aload_n 0, 1) := by decide +kernel
theorem dX12_image_22 : decode cX12_image 22 = .ok (.aload_n 0, 1) := by decide +kernel
theorem dX12_image_23 : decode cX12_image 23 = .ok (.getfield 203, 3) := by decide +kernel
theorem dX12_image_26 : decode cX12_image 26 = .ok (.putfield 386, 3) := by decide +kernel
theorem dX12_image_29 : decode cX12_image 29 = .ok (.iconst 0, 1) := by decide +kernel
theorem dX12_image_30 : decode cX12_image 30 = .ok (.istore_n 1, 1) := by decide +kernel
theorem dX12_image_31 : decode cX12_image 31 = .ok (.iload_n 1, 1) := by decide +kernel
theorem dX12_image_32 : decode cX12_image 32 = .ok (.iconst 4, 1) := by decide +kernel
theorem dX12_image_33 : decode cX12_image 33 = .ok (.if_icmp .ge 69, 3) := by decide +kernel
theorem dX12_image_36 : decode cX12_image 36 = .ok (.aload_n 0, 1) := by decide +kernel
theorem dX12_image_37 : decode cX12_image 37 = .ok (.getfield 68, 3) := by decide +kernel
theorem dX12_image_40 : decode cX12_image 40 = .ok (.iload_n 1, 1) := by decide +kernel
theorem dX12_image_41 : decode cX12_image 41 = .ok (.aload_n 0, 1) := by decide +kernel
theorem dX12_image_42 : decode cX12_image 42 = .ok (.getfield 7, 3) := by decide +kernel
theorem dX12_image_45 : decode cX12_image 45 = .ok (.iload_n 1, 1) := by decide +kernel
theorem dX12_image_46 : decode cX12_image 46 = .ok (.iaload, 1) := by decide +kernel
theorem dX12_image_47 : decode cX12_image 47 = .ok (.iastore, 1) := by decide +kernel
theorem dX12_image_48 : decode cX12_image 48 = .ok (.aload_n 0, 1) := by decide +kernel
theorem dX12_image_49 : decode cX12_image 49 = .ok (.getfield 71, 3) := by decide +kernel
theorem dX12_image_52 : decode cX12_image 52 = .ok (.iload_n 1, 1) := by decide +kernel
theorem dX12_image_53 : decode cX12_image 53 = .ok (.aload_n 0, 1) := by decide +kernel
theorem dX12_image_54 : decode cX12_image 54 = .ok (.getfield 13, 3) := by decide +kernel
theorem dX12_image_57 : decode cX12_image 57 = .ok (.iload_n 1, 1) := by decide +kernel
theorem dX12_image_58 : decode cX12_image 58 = .ok (.iaload, 1) := by decide +kernel
theorem dX12_image_59 : decode cX12_image 59 = .ok (.iastore, 1) := by decide +kernel
theorem dX12_image_60 : decode cX12_image 60 = .ok (.aload_n 0, 1) := by decide +kernel
theorem dX12_image_61 : decode cX12_image 61 = .ok (.getfield 74, 3) := by decide +kernel
theorem dX12_image_64 : decode cX12_image 64 = .ok (.iload_n 1, 1) := by decide +kernel
theorem dX12_image_65 : decode cX12_image 65 = .ok (.aload_n 0, 1) := by decide +kernel
theorem dX12_image_66 : decode cX12_image 66 = .ok (.getfield 16, 3) := by decide +kernel
theorem dX12_image_69 : decode cX12_image 69 = .ok (.iload_n 1, 1) := by decide +kernel
theorem dX12_image_70 : decode cX12_image 70 = .ok (.iaload, 1) := by decide +kernel
theorem dX12_image_71 : decode cX12_image 71 = .ok (.iastore, 1) := by decide +kernel
theorem dX12_image_72 : decode cX12_image 72 = .ok (.aload_n 0, 1) := by decide +kernel
theorem dX12_image_73 : decode cX12_image 73 = .ok (.getfield 86, 3) := by decide +kernel
theorem dX12_image_76 : decode cX12_image 76 = .ok (.iload_n 1, 1) := by decide +kernel
theorem dX12_image_77 : decode cX12_image 77 = .ok (.aload_n 0, 1) := by decide +kernel
theorem dX12_image_78 : decode cX12_image 78 = .ok (.getfield 46, 3) := by decide +kernel
theorem dX12_image_81 : decode cX12_image 81 = .ok (.iload_n 1, 1) := by decide +kernel
theorem dX12_image_82 : decode cX12_image 82 = .ok (.iaload, 1) := by decide +kernel
theorem dX12_image_83 : decode cX12_image 83 = .ok (.iastore, 1) := by decide +kernel
theorem dX12_image_84 : decode cX12_image 84 = .ok (.aload_n 0, 1) := by decide +kernel
theorem dX12_image_85 : decode cX12_image 85 = .ok (.getfield 89, 3) := by decide +kernel
theorem dX12_image_88 : decode cX12_image 88 = .ok (.iload_n 1, 1) := by decide +kernel
theorem dX12_image_89 : decode cX12_image 89 = .ok (.aload_n 0, 1) := by decide +kernel
theorem dX12_image_90 : decode cX12_image 90 = .ok (.getfield 49, 3) := by decide +kernel
theorem dX12_image_93 : decode cX12_image 93 = .ok (.iload_n 1, 1) := by decide +kernel
theorem dX12_image_94 : decode cX12_image 94 = .ok (.iaload, 1) := by decide +kernel
theorem dX12_image_95 : decode cX12_image 95 = .ok (.iastore, 1) := by decide +kernel
theorem dX12_image_96 : decode cX12_image 96 = .ok (.iinc 1 1, 3) := by decide +kernel
theorem dX12_image_99 : decode cX12_image 99 = .ok (.goto (-68), 3) := by decide +kernel
theorem dX12_image_102 : decode cX12_image 102 = .ok (.iconst 0, 1) := by decide +kernel
theorem dX12_image_103 : decode cX12_image 103 = .ok (.istore_n 1, 1) := by decide +kernel
theorem dX12_image_104 : decode cX12_image 104 = .ok (.iload_n 1, 1) := by decide +kernel
theorem dX12_image_105 : decode cX12_image 105 = .ok (.bipush 6, 2) := by decide +kernel
theorem dX12_image_107 : decode cX12_image 107 = .ok (.if_icmp .ge 33, 3) := by decide +kernel
theorem dX12_image_110 : decode cX12_image 110 = .ok (.aload_n 0, 1) := by decide +kernel
theorem dX12_image_111 : decode cX12_image 111 = .ok (.getfield 77, 3) := by decide +kernel
theorem dX12_image_114 : decode cX12_image 114 = .ok (.iload_n 1, 1) := by decide +kernel
theorem dX12_image_115 : decode cX12_image 115 = .ok (.aload_n 0, 1) := by decide +kernel
theorem dX12_image_116 : decode cX12_image 116 = .ok (.getfield 28, 3) := by decide +kernel
theorem dX12_image_119 : decode cX12_image 119 = .ok (.iload_n 1, 1) := by decide +kernel
theorem dX12_image_120 : decode cX12_image 120 = .ok (.iaload, 1) := by decide +kernel
theorem dX12_image_121 : decode cX12_image 121 = .ok (.iastore, 1) := by decide +kernel
theorem dX12_image_122 : decode cX12_image 122 = .ok (.aload_n 0, 1) := by decide +kernel
theorem dX12_image_123 : decode cX12_image 123 = .ok (.getfield 80, 3) := by decide +kernel
theorem dX12_image_126 : decode cX12_image 126 = .ok (.iload_n 1, 1) := by decide +kernel
theorem dX12_image_127 : decode cX12_image 127 = .ok (.aload_n 0, 1) := by decide +kernel
theorem dX12_image_128 : decode cX12_image 128 = .ok (.getfield 31, 3) := by decide +kernel
theorem dX12_image_131 : decode cX12_image 131 = .ok (.iload_n 1, 1) := by decide +kernel
theorem dX12_image_132 : decode cX12_image 132 = .ok (.iaload, 1) := by decide +kernel
theorem dX12_image_133 : decode cX12_image 133 = .ok (.iastore, 1) := by decide +kernel
theorem dX12_image_134 : decode cX12_image 134 = .ok (.iinc 1 1, 3) := by decide +kernel
theorem dX12_image_137 : decode cX12_image 137 = .ok (.goto (-33), 3) := by decide +kernel
theorem dX12_image_140 : decode cX12_image 140 = .ok (.iconst 0, 1) := by decide +kernel
theorem dX12_image_141 : decode cX12_image 141 = .ok (.istore_n 1, 1) := by decide +kernel
theorem dX12_image_142 : decode cX12_image 142 = .ok (.iload_n 1, 1) := by decide +kernel
theorem dX12_image_143 : decode cX12_image 143 = .ok (.bipush 48, 2) := by decide +kernel
theorem dX12_image_145 : decode cX12_image 145 = .ok (.if_icmp .ge 21, 3) := by decide +kernel
theorem dX12_image_148 : decode cX12_image 148 = .ok (.aload_n 0, 1) := by decide +kernel
theorem dX12_image_149 : decode cX12_image 149 = .ok (.getfield 83, 3) := by decide +kernel
theorem dX12_image_152 : decode cX12_image 152 = .ok (.iload_n 1, 1) := by decide +kernel
theorem dX12_image_153 : decode cX12_image 153 = .ok (.aload_n 0, 1) := by decide +kernel
theorem dX12_image_154 : decode cX12_image 154 = .ok (.getfield 34, 3) := by decide +kernel
theorem dX12_image_157 : decode cX12_image 157 = .ok (.iload_n 1, 1) := by decide +kernel
theorem dX12_image_158 : decode cX12_image 158 = .ok (.iaload, 1) := by decide +kernel
theorem dX12_image_159 : decode cX12_image 159 = .ok (.iastore, 1) := by decide +kernel
theorem dX12_image_160 : decode cX12_image 160 = .ok (.iinc 1 1, 3) := by decide +kernel
theorem dX12_image_163 : decode cX12_image 163 = .ok (.goto (-21), 3) := by decide +kernel
theorem dX12_image_166 : decode cX12_image 166 = .ok (.aload_n 0, 1) := by decide +kernel
theorem dX12_image_167 : decode cX12_image 167 = .ok (.getfield 156, 3) := by decide +kernel
theorem dX12_image_170 : decode cX12_image 170 = .ok (.ireturn, 1) := by decide +kernel
theorem dX12_back_0 : decode cX12_back 0 = .ok (.aload_n 0, 1) := by decide +kernel
theorem dX12_back_1 : decode cX12_back 1 = .ok (.getfield 376, 3) := by decide +kernel
theorem dX12_back_4 : decode cX12_back 4 = .ok (.ifCond .ne 6, 3) := by decide +kernel
theorem dX12_back_7 : decode cX12_back 7 = .ok (.bipush (-3), 2) := by decide +kernel
theorem dX12_back_9 : decode cX12_back 9 = .ok (.ireturn, 1) := by decide +kernel
theorem dX12_back_10 : decode cX12_back 10 = .ok (.aload_n 0, 1) := by decide +kernel
theorem dX12_back_11 : decode cX12_back 11 = .ok (.aload_n 0, 1) := by decide +kernel
theorem dX12_back_12 : decode cX12_back 12 = .ok (.getfield 386, 3) := by decide +kernel
theorem dX12_back_15 : decode cX12_back 15 = .ok (.putfield 203, 3) := by decide +kernel
theorem dX12_back_18 : decode cX12_back 18 = .ok (.iconst 0, 1) := by decide +kernel
theorem dX12_back_19 : decode cX12_back 19 = .ok (.istore_n 1, 1) := by decide +kernel
theorem dX12_back_20 : decode cX12_back 20 = .ok (.iload_n 1, 1) := by decide +kernel
theorem dX12_back_21 : decode cX12_back 21 = .ok (.iconst 4, 1) := by decide +kernel
theorem dX12_back_22 : decode cX12_back 22 = .ok (.if_icmp .ge 103, 3) := by decide +kernel
theorem dX12_back_25 : decode cX12_back 25 = .ok (.aload_n 0, 1) := by decide +kernel
theorem dX12_back_26 : decode cX12_back 26 = .ok (.getfield 7, 3) := by decide +kernel
theorem dX12_back_29 : decode cX12_back 29 = .ok (.iload_n 1, 1) := by decide +kernel
theorem dX12_back_30 : decode cX12_back 30 = .ok (.aload_n 0, 1) := by decide +kernel
theorem dX12_back_31 : decode cX12_back 31 = .ok (.getfield 68, 3) := by decide +kernel
theorem dX12_back_34 : decode cX12_back 34 = .ok (.iload_n 1, 1) := by decide +kernel
theorem dX12_back_35 : decode cX12_back 35 = .ok (.iaload, 1) := by decide +kernel
theorem dX12_back_36 : decode cX12_back 36 = .ok (.iastore, 1) := by decide +kernel
theorem dX12_back_37 : decode cX12_back 37 = .ok (.aload_n 0, 1) := by decide +kernel
theorem dX12_back_38 : decode cX12_back 38 = .ok (.getfield 13, 3) := by decide +kernel
theorem dX12_back_41 : decode cX12_back 41 = .ok (.iload_n 1, 1) := by decide +kernel
theorem dX12_back_42 : decode cX12_back 42 = .ok (.aload_n 0, 1) := by decide +kernel
theorem dX12_back_43 : decode cX12_back 43 = .ok (.getfield 71, 3) := by decide +kernel
theorem dX12_back_46 : decode cX12_back 46 = .ok (.iload_n 1, 1) := by decide +kernel
theorem dX12_back_47 : decode cX12_back 47 = .ok (.iaload, 1) := by decide +kernel
theorem dX12_back_48 : decode cX12_back 48 = .ok (.iastore, 1) := by decide +kernel
theorem dX12_back_49 : decode cX12_back 49 = .ok (.aload_n 0, 1) := by decide +kernel
theorem dX12_back_50 : decode cX12_back 50 = .ok (.getfield 16, 3) := by decide +kernel
theorem dX12_back_53 : decode cX12_back 53 = .ok (.iload_n 1, 1) := by decide +kernel
theorem dX12_back_54 : decode cX12_back 54 = .ok (.aload_n 0, 1) := by decide +kernel
theorem dX12_back_55 : decode cX12_back 55 = .ok (.getfield 74, 3) := by decide +kernel
theorem dX12_back_58 : decode cX12_back 58 = .ok (.iload_n 1, 1) := by decide +kernel
theorem dX12_back_59 : decode cX12_back 59 = .ok (.iaload, 1) := by decide +kernel
theorem dX12_back_60 : decode cX12_back 60 = .ok (.iastore, 1) := by decide +kernel
theorem dX12_back_61 : decode cX12_back 61 = .ok (.aload_n 0, 1) := by decide +kernel
theorem dX12_back_62 : decode cX12_back 62 = .ok (.getfield 46, 3) := by decide +kernel
theorem dX12_back_65 : decode cX12_back 65 = .ok (.iload_n 1, 1) := by decide +kernel
theorem dX12_back_66 : decode cX12_back 66 = .ok (.iload_n 1, 1) := by decide +kernel
theorem dX12_back_67 : decode cX12_back 67 = .ok (.aload_n 0, 1) := by decide +kernel
theorem dX12_back_68 : decode cX12_back 68 = .ok (.getfield 383, 3) := by decide +kernel
theorem dX12_back_71 : decode cX12_back 71 = .ok (.if_icmp .ge 12, 3) := by decide +kernel
theorem dX12_back_74 : decode cX12_back 74 = .ok (.aload_n 0, 1) := by decide +kernel
theorem dX12_back_75 : decode cX12_back 75 = .ok (.getfield 86, 3) := by decide +kernel
theorem dX12_back_78 : decode cX12_back 78 = .ok (.iload_n 1, 1) := by decide +kernel
theorem dX12_back_79 : decode cX12_back 79 = .ok (.iaload, 1) := by decide +kernel
theorem dX12_back_80 : decode cX12_back 80 = .ok (.goto 9, 3) := by decide +kernel
theorem dX12_back_83 : decode cX12_back 83 = .ok (.aload_n 0, 1) := by decide +kernel
theorem dX12_back_84 : decode cX12_back 84 = .ok (.getfield 46, 3) := by decide +kernel
theorem dX12_back_87 : decode cX12_back 87 = .ok (.iload_n 1, 1) := by decide +kernel
theorem dX12_back_88 : decode cX12_back 88 = .ok (.iaload, 1) := by decide +kernel
theorem dX12_back_89 : decode cX12_back 89 = .ok (.iastore, 1) := by decide +kernel
theorem dX12_back_90 : decode cX12_back 90 = .ok (.aload_n 0, 1) := by decide +kernel
theorem dX12_back_91 : decode cX12_back 91 = .ok (.getfield 49, 3) := by decide +kernel
theorem dX12_back_94 : decode cX12_back 94 = .ok (.iload_n 1, 1) := by decide +kernel
theorem dX12_back_95 : decode cX12_back 95 = .ok (.iload_n 1, 1) := by decide +kernel
theorem dX12_back_96 : decode cX12_back 96 = .ok (.aload_n 0, 1) := by decide +kernel
theorem dX12_back_97 : decode cX12_back 97 = .ok (.getfield 383, 3) := by decide +kernel
theorem dX12_back_100 : decode cX12_back 100 = .ok (.if_icmp .ge 12, 3) := by decide +kernel
theorem dX12_back_103 : decode cX12_back 103 = .ok (.aload_n 0, 1) := by decide +kernel
theorem dX12_back_104 : decode cX12_back 104 = .ok (.getfield 89, 3) := by decide +kernel
theorem dX12_back_107 : decode cX12_back 107 = .ok (.iload_n 1, 1) := by decide +kernel
theorem dX12_back_108 : decode cX12_back 108 = .ok (.iaload, 1) := by decide +kernel
theorem dX12_back_109 : decode cX12_back 109 = .ok (.goto 9, 3) := by decide +kernel
theorem dX12_back_112 : decode cX12_back 112 = .ok (.aload_n 0, 1) := by decide +kernel
theorem dX12_back_113 : decode cX12_back 113 = .ok (.getfield 49, 3) := by decide +kernel
theorem dX12_back_116 : decode cX12_back 116 = .ok (.iload_n 1, 1) := by decide +kernel
theorem dX12_back_117 : decode cX12_back 117 = .ok (.iaload, 1) := by decide +kernel
theorem dX12_back_118 : decode cX12_back 118 = .ok (.iastore, 1) := by decide +kernel
theorem dX12_back_119 : decode cX12_back 119 = .ok (.iinc 1 1, 3) := by decide +kernel
theorem dX12_back_122 : decode cX12_back 122 = .ok (.goto (-102), 3) := by decide +kernel
theorem dX12_back_125 : decode cX12_back 125 = .ok (.iconst 0, 1) := by decide +kernel
theorem dX12_back_126 : decode cX12_back 126 = .ok (.istore_n 1, 1) := by decide +kernel
theorem dX12_back_127 : decode cX12_back 127 = .ok (.iload_n 1, 1) := by decide +kernel
theorem dX12_back_128 : decode cX12_back 128 = .ok (.aload_n 0, 1) := by decide +kernel
theorem dX12_back_129 : decode cX12_back 129 = .ok (.getfield 380, 3) := by decide +kernel
theorem dX12_back_132 : decode cX12_back 132 = .ok (.if_icmp .ge 69, 3) := by decide +kernel
theorem dX12_back_135 : decode cX12_back 135 = .ok (.aload_n 0, 1) := by decide +kernel
theorem dX12_back_136 : decode cX12_back 136 = .ok (.getfield 28, 3) := by decide +kernel
theorem dX12_back_139 : decode cX12_back 139 = .ok (.iload_n 1, 1) := by decide +kernel
theorem dX12_back_140 : decode cX12_back 140 = .ok (.aload_n 0, 1) := by decide +kernel
theorem dX12_back_141 : decode cX12_back 141 = .ok (.getfield 77, 3) := by decide +kernel
theorem dX12_back_144 : decode cX12_back 144 = .ok (.iload_n 1, 1) := by decide +kernel
theorem dX12_back_145 : decode cX12_back 145 = .ok (.iaload, 1) := by decide +kernel
theorem dX12_back_146 : decode cX12_back 146 = .ok (.iastore, 1) := by decide +kernel
theorem dX12_back_147 : decode cX12_back 147 = .ok (.aload_n 0, 1) := by decide +kernel
theorem dX12_back_148 : decode cX12_back 148 = .ok (.getfield 31, 3) := by decide +kernel
theorem dX12_back_151 : decode cX12_back 151 = .ok (.iload_n 1, 1) := by decide +kernel
theorem dX12_back_152 : decode cX12_back 152 = .ok (.aload_n 0, 1) := by decide +kernel
theorem dX12_back_153 : decode cX12_back 153 = .ok (.getfield 80, 3) := by decide +kernel
theorem dX12_back_156 : decode cX12_back 156 = .ok (.iload_n 1, 1) := by decide +kernel
theorem dX12_back_157 : decode cX12_back 157 = .ok (.iaload, 1) := by decide +kernel
theorem dX12_back_158 : decode cX12_back 158 = .ok (.iastore, 1) := by decide +kernel
theorem dX12_back_159 : decode cX12_back 159 = .ok (.iconst 0, 1) := by decide +kernel
theorem dX12_back_160 : decode cX12_back 160 = .ok (.istore_n 2, 1) := by decide +kernel
theorem dX12_back_161 : decode cX12_back 161 = .ok (.iload_n 2, 1) := by decide +kernel
theorem dX12_back_162 : decode cX12_back 162 = .ok (.bipush 8, 2) := by decide +kernel
theorem dX12_back_164 : decode cX12_back 164 = .ok (.if_icmp .ge 31, 3) := by decide +kernel
theorem dX12_back_167 : decode cX12_back 167 = .ok (.aload_n 0, 1) := by decide +kernel
theorem dX12_back_168 : decode cX12_back 168 = .ok (.getfield 34, 3) := by decide +kernel
theorem dX12_back_171 : decode cX12_back 171 = .ok (.bipush 8, 2) := by decide +kernel
theorem dX12_back_173 : decode cX12_back 173 = .ok (.iload_n 1, 1) := by decide +kernel
theorem dX12_back_174 : decode cX12_back 174 = .ok (.imul, 1) := by decide +kernel
theorem dX12_back_175 : decode cX12_back 175 = .ok (.iload_n 2, 1) := by decide +kernel
theorem dX12_back_176 : decode cX12_back 176 = .ok (.iadd, 1) := by decide +kernel
theorem dX12_back_177 : decode cX12_back 177 = .ok (.aload_n 0, 1) := by decide +kernel
theorem dX12_back_178 : decode cX12_back 178 = .ok (.getfield 83, 3) := by decide +kernel
theorem dX12_back_181 : decode cX12_back 181 = .ok (.bipush 8, 2) := by decide +kernel
theorem dX12_back_183 : decode cX12_back 183 = .ok (.iload_n 1, 1) := by decide +kernel
theorem dX12_back_184 : decode cX12_back 184 = .ok (.imul, 1) := by decide +kernel
theorem dX12_back_185 : decode cX12_back 185 = .ok (.iload_n 2, 1) := by decide +kernel
theorem dX12_back_186 : decode cX12_back 186 = .ok (.iadd, 1) := by decide +kernel
theorem dX12_back_187 : decode cX12_back 187 = .ok (.iaload, 1) := by decide +kernel
theorem dX12_back_188 : decode cX12_back 188 = .ok (.iastore, 1) := by decide +kernel
theorem dX12_back_189 : decode cX12_back 189 = .ok (.iinc 2 1, 3) := by decide +kernel
theorem dX12_back_192 : decode cX12_back 192 = .ok (.goto (-31), 3) := by decide +kernel
theorem dX12_back_195 : decode cX12_back 195 = .ok (.iinc 1 1, 3) := by decide +kernel
theorem dX12_back_198 : decode cX12_back 198 = .ok (.goto (-71), 3) := by decide +kernel
theorem dX12_back_201 : decode cX12_back 201 = .ok (.aload_n 0, 1) := by decide +kernel
theorem dX12_back_202 : decode cX12_back 202 = .ok (.getfield 156, 3) := by decide +kernel
theorem dX12_back_205 : decode cX12_back 205 = .ok (.ireturn, 1) := by decide +kernel
theorem dX12_sheet_0 : decode cX12_sheet 0 = .ok (.iload_n 1, 1) := by decide +kernel
theorem dX12_sheet_1 : decode cX12_sheet 1 = .ok (.iconst 0, 1) := by decide +kernel
theorem dX12_sheet_2 : decode cX12_sheet 2 = .ok (.iconst 3, 1) := by decide +kernel
theorem dX12_sheet_3 : decode cX12_sheet 3 = .ok (.invokestatic 159, 3) := by decide +kernel
theorem dX12_sheet_6 : decode cX12_sheet 6 = .ok (.ifCond .eq 23, 3) := by decide +kernel
theorem dX12_sheet_9 : decode cX12_sheet 9 = .ok (.iload_n 2, 1) := by decide +kernel
theorem dX12_sheet_10 : decode cX12_sheet 10 = .ok (.iconst (-1), 1) := by decide +kernel
theorem dX12_sheet_11 : decode cX12_sheet 11 = .ok (.iconst 2, 1) := by decide +kernel
theorem dX12_sheet_12 : decode cX12_sheet 12 = .ok (.invokestatic 159, 3) := by decide +kernel
theorem dX12_sheet_15 : decode cX12_sheet 15 = .ok (.ifCond .eq 14, 3) := by decide +kernel
theorem dX12_sheet_18 : decode cX12_sheet 18 = .ok (.iload_n 2, 1) := by decide +kernel
theorem dX12_sheet_19 : decode cX12_sheet 19 = .ok (.iconst (-1), 1) := by decide +kernel
theorem dX12_sheet_20 : decode cX12_sheet 20 = .ok (.if_icmp .eq 12, 3) := by decide +kernel
theorem dX12_sheet_23 : decode cX12_sheet 23 = .ok (.iload_n 3, 1) := by decide +kernel
theorem dX12_sheet_24 : decode cX12_sheet 24 = .ok (.bipush 60, 2) := by decide +kernel
theorem dX12_sheet_26 : decode cX12_sheet 26 = .ok (.if_icmp .le 6, 3) := by decide +kernel
theorem dX12_sheet_29 : decode cX12_sheet 29 = .ok (.bipush (-2), 2) := by decide +kernel
theorem dX12_sheet_31 : decode cX12_sheet 31 = .ok (.ireturn, 1) := by decide +kernel
theorem dX12_sheet_32 : decode cX12_sheet 32 = .ok (.iload_n 2, 1) := by decide +kernel
theorem dX12_sheet_33 : decode cX12_sheet 33 = .ok (.iconst (-1), 1) := by decide +kernel
theorem dX12_sheet_34 : decode cX12_sheet 34 = .ok (.if_icmp .eq 10, 3) := by decide +kernel
theorem dX12_sheet_37 : decode cX12_sheet 37 = .ok (.iload_n 3, 1) := by decide +kernel
theorem dX12_sheet_38 : decode cX12_sheet 38 = .ok (.ifCond .ge 6, 3) := by decide +kernel
theorem dX12_sheet_41 : decode cX12_sheet 41 = .ok (.bipush (-14), 2) := by decide +kernel
theorem dX12_sheet_43 : decode cX12_sheet 43 = .ok (.ireturn, 1) := by decide +kernel
theorem dX12_sheet_44 : decode cX12_sheet 44 = .ok (.aload_n 0, 1) := by decide +kernel
theorem dX12_sheet_45 : decode cX12_sheet 45 = .ok (.getfield 92, 3) := by decide +kernel
theorem dX12_sheet_48 : decode cX12_sheet 48 = .ok (.iload_n 1, 1) := by decide +kernel
theorem dX12_sheet_49 : decode cX12_sheet 49 = .ok (.iload_n 2, 1) := by decide +kernel
theorem dX12_sheet_50 : decode cX12_sheet 50 = .ok (.iastore, 1) := by decide +kernel
theorem dX12_sheet_51 : decode cX12_sheet 51 = .ok (.aload_n 0, 1) := by decide +kernel
theorem dX12_sheet_52 : decode cX12_sheet 52 = .ok (.getfield 95, 3) := by decide +kernel
theorem dX12_sheet_55 : decode cX12_sheet 55 = .ok (.iload_n 1, 1) := by decide +kernel
theorem dX12_sheet_56 : decode cX12_sheet 56 = .ok (.iload_n 2, 1) := by decide +kernel
theorem dX12_sheet_57 : decode cX12_sheet 57 = .ok (.iconst (-1), 1) := by decide +kernel
theorem dX12_sheet_58 : decode cX12_sheet 58 = .ok (.if_icmp .ne 7, 3) := by decide +kernel
theorem dX12_sheet_61 : decode cX12_sheet 61 = .ok (.iconst 0, 1) := by decide +kernel
theorem dX12_sheet_62 : decode cX12_sheet 62 = .ok (.goto 4, 3) := by decide +kernel
theorem dX12_sheet_65 : decode cX12_sheet 65 = .ok (.iload_n 3, 1) := by decide +kernel
theorem dX12_sheet_66 : decode cX12_sheet 66 = .ok (.iastore, 1) := by decide +kernel
theorem dX12_sheet_67 : decode cX12_sheet 67 = .ok (.iconst 0, 1) := by decide +kernel
theorem dX12_sheet_68 : decode cX12_sheet 68 = .ok (.istore 4, 2) := by decide +kernel
theorem dX12_sheet_70 : decode cX12_sheet 70 = .ok (.iload 4, 2) := by decide +kernel
theorem dX12_sheet_72 : decode cX12_sheet 72 = .ok (.bipush 60, 2) := by decide +kernel
theorem dX12_sheet_74 : decode cX12_sheet 74 = .ok (.if_icmp .ge 22, 3) := by decide +kernel
theorem dX12_sheet_77 : decode cX12_sheet 77 = .ok (.aload_n 0, 1) := by decide +kernel
theorem dX12_sheet_78 : decode cX12_sheet 78 = .ok (.getfield 98, 3) := by decide +kernel
theorem dX12_sheet_81 : decode cX12_sheet 81 = .ok (.bipush 60, 2) := by decide +kernel
theorem dX12_sheet_83 : decode cX12_sheet 83 = .ok (.iload_n 1, 1) := by decide +kernel
theorem dX12_sheet_84 : decode cX12_sheet 84 = .ok (.imul, 1) := by decide +kernel
theorem dX12_sheet_85 : decode cX12_sheet 85 = .ok (.iload 4, 2) := by decide +kernel
theorem dX12_sheet_87 : decode cX12_sheet 87 = .ok (.iadd, 1) := by decide +kernel
theorem dX12_sheet_88 : decode cX12_sheet 88 = .ok (.iconst 0, 1) := by decide +kernel
theorem dX12_sheet_89 : decode cX12_sheet 89 = .ok (.iastore, 1) := by decide +kernel
theorem dX12_sheet_90 : decode cX12_sheet 90 = .ok (.iinc 4 1, 3) := by decide +kernel
theorem dX12_sheet_93 : decode cX12_sheet 93 = .ok (.goto (-23), 3) := by decide +kernel
theorem dX12_sheet_96 : decode cX12_sheet 96 = .ok (.iconst 1, 1) := by decide +kernel
theorem dX12_sheet_97 : decode cX12_sheet 97 = .ok (.ireturn, 1) := by decide +kernel
theorem dX12_cell_0 : decode cX12_cell 0 = .ok (.iload_n 1, 1) := by decide +kernel
theorem dX12_cell_1 : decode cX12_cell 1 = .ok (.iconst 0, 1) := by decide +kernel
theorem dX12_cell_2 : decode cX12_cell 2 = .ok (.iconst 3, 1) := by decide +kernel
theorem dX12_cell_3 : decode cX12_cell 3 = .ok (.invokestatic 159, 3) := by decide +kernel
theorem dX12_cell_6 : decode cX12_cell 6 = .ok (.ifCond .ne 6, 3) := by decide +kernel
theorem dX12_cell_9 : decode cX12_cell 9 = .ok (.bipush (-2), 2) := by decide +kernel
theorem dX12_cell_11 : decode cX12_cell 11 = .ok (.ireturn, 1) := by decide +kernel
theorem dX12_cell_12 : decode cX12_cell 12 = .ok (.aload_n 0, 1) := by decide +kernel
theorem dX12_cell_13 : decode cX12_cell 13 = .ok (.getfield 92, 3) := by decide +kernel
theorem dX12_cell_16 : decode cX12_cell 16 = .ok (.iload_n 1, 1) := by decide +kernel
theorem dX12_cell_17 : decode cX12_cell 17 = .ok (.iaload, 1) := by decide +kernel
theorem dX12_cell_18 : decode cX12_cell 18 = .ok (.iconst (-1), 1) := by decide +kernel
theorem dX12_cell_19 : decode cX12_cell 19 = .ok (.if_icmp .ne 6, 3) := by decide +kernel
theorem dX12_cell_22 : decode cX12_cell 22 = .ok (.bipush (-11), 2) := by decide +kernel
theorem dX12_cell_24 : decode cX12_cell 24 = .ok (.ireturn, 1) := by decide +kernel
theorem dX12_cell_25 : decode cX12_cell 25 = .ok (.iload_n 2, 1) := by decide +kernel
theorem dX12_cell_26 : decode cX12_cell 26 = .ok (.iconst 0, 1) := by decide +kernel
theorem dX12_cell_27 : decode cX12_cell 27 = .ok (.aload_n 0, 1) := by decide +kernel
theorem dX12_cell_28 : decode cX12_cell 28 = .ok (.getfield 95, 3) := by decide +kernel
theorem dX12_cell_31 : decode cX12_cell 31 = .ok (.iload_n 1, 1) := by decide +kernel
theorem dX12_cell_32 : decode cX12_cell 32 = .ok (.iaload, 1) := by decide +kernel
theorem dX12_cell_33 : decode cX12_cell 33 = .ok (.iconst 1, 1) := by decide +kernel
theorem dX12_cell_34 : decode cX12_cell 34 = .ok (.isub, 1) := by decide +kernel
theorem dX12_cell_35 : decode cX12_cell 35 = .ok (.invokestatic 159, 3) := by decide +kernel
theorem dX12_cell_38 : decode cX12_cell 38 = .ok (.ifCond .ne 6, 3) := by decide +kernel
theorem dX12_cell_41 : decode cX12_cell 41 = .ok (.bipush (-12), 2) := by decide +kernel
theorem dX12_cell_43 : decode cX12_cell 43 = .ok (.ireturn, 1) := by decide +kernel
theorem dX12_cell_44 : decode cX12_cell 44 = .ok (.aload_n 0, 1) := by decide +kernel
theorem dX12_cell_45 : decode cX12_cell 45 = .ok (.getfield 98, 3) := by decide +kernel
theorem dX12_cell_48 : decode cX12_cell 48 = .ok (.bipush 60, 2) := by decide +kernel
theorem dX12_cell_50 : decode cX12_cell 50 = .ok (.iload_n 1, 1) := by decide +kernel
theorem dX12_cell_51 : decode cX12_cell 51 = .ok (.imul, 1) := by decide +kernel
theorem dX12_cell_52 : decode cX12_cell 52 = .ok (.iload_n 2, 1) := by decide +kernel
theorem dX12_cell_53 : decode cX12_cell 53 = .ok (.iadd, 1) := by decide +kernel
theorem dX12_cell_54 : decode cX12_cell 54 = .ok (.aload_n 0, 1) := by decide +kernel
theorem dX12_cell_55 : decode cX12_cell 55 = .ok (.getfield 92, 3) := by decide +kernel
theorem dX12_cell_58 : decode cX12_cell 58 = .ok (.iload_n 1, 1) := by decide +kernel
theorem dX12_cell_59 : decode cX12_cell 59 = .ok (.iaload, 1) := by decide +kernel
theorem dX12_cell_60 : decode cX12_cell 60 = .ok (.ifCond .ne 8, 3) := by decide +kernel
theorem dX12_cell_63 : decode cX12_cell 63 = .ok (.iload_n 3, 1) := by decide +kernel
theorem dX12_cell_64 : decode cX12_cell 64 = .ok (.i2b, 1) := by decide +kernel
theorem dX12_cell_65 : decode cX12_cell 65 = .ok (.goto 19, 3) := by decide +kernel
theorem dX12_cell_68 : decode cX12_cell 68 = .ok (.aload_n 0, 1) := by decide +kernel
theorem dX12_cell_69 : decode cX12_cell 69 = .ok (.getfield 92, 3) := by decide +kernel
theorem dX12_cell_72 : decode cX12_cell 72 = .ok (.iload_n 1, 1) := by decide +kernel
theorem dX12_cell_73 : decode cX12_cell 73 = .ok (.iaload, 1) := by decide +kernel
theorem dX12_cell_74 : decode cX12_cell 74 = .ok (.iconst 1, 1) := by decide +kernel
theorem dX12_cell_75 : decode cX12_cell 75 = .ok (.if_icmp .ne 8, 3) := by decide +kernel
theorem dX12_cell_78 : decode cX12_cell 78 = .ok (.iload_n 3, 1) := by decide +kernel
theorem dX12_cell_79 : decode cX12_cell 79 = .ok (.i2s, 1) := by decide +kernel
theorem dX12_cell_80 : decode cX12_cell 80 = .ok (.goto 4, 3) := by decide +kernel
theorem dX12_cell_83 : decode cX12_cell 83 = .ok (.iload_n 3, 1) := by decide +kernel
theorem dX12_cell_84 : decode cX12_cell 84 = .ok (.iastore, 1) := by decide +kernel
theorem dX12_cell_85 : decode cX12_cell 85 = .ok (.iconst 1, 1) := by decide +kernel
theorem dX12_cell_86 : decode cX12_cell 86 = .ok (.ireturn, 1) := by decide +kernel
theorem dX12_copy_0 : decode cX12_copy 0 = .ok (.iload_n 1, 1) := by decide +kernel
theorem dX12_copy_1 : decode cX12_copy 1 = .ok (.iconst 0, 1) := by decide +kernel
theorem dX12_copy_2 : decode cX12_copy 2 = .ok (.iconst 3, 1) := by decide +kernel
theorem dX12_copy_3 : decode cX12_copy 3 = .ok (.invokestatic 159, 3) := by decide +kernel
theorem dX12_copy_6 : decode cX12_copy 6 = .ok (.ifCond .eq 12, 3) := by decide +kernel
theorem dX12_copy_9 : decode cX12_copy 9 = .ok (.iload_n 3, 1) := by decide +kernel
theorem dX12_copy_10 : decode cX12_copy 10 = .ok (.iconst 0, 1) := by decide +kernel
theorem dX12_copy_11 : decode cX12_copy 11 = .ok (.iconst 3, 1) := by decide +kernel
theorem dX12_copy_12 : decode cX12_copy 12 = .ok (.invokestatic 159, 3) := by decide +kernel
theorem dX12_copy_15 : decode cX12_copy 15 = .ok (.ifCond .ne 6, 3) := by decide +kernel
theorem dX12_copy_18 : decode cX12_copy 18 = .ok (.bipush (-2), 2) := by decide +kernel
theorem dX12_copy_20 : decode cX12_copy 20 = .ok (.ireturn, 1) := by decide +kernel
theorem dX12_copy_21 : decode cX12_copy 21 = .ok (.aload_n 0, 1) := by decide +kernel
theorem dX12_copy_22 : decode cX12_copy 22 = .ok (.getfield 92, 3) := by decide +kernel
theorem dX12_copy_25 : decode cX12_copy 25 = .ok (.iload_n 1, 1) := by decide +kernel
theorem dX12_copy_26 : decode cX12_copy 26 = .ok (.iaload, 1) := by decide +kernel
theorem dX12_copy_27 : decode cX12_copy 27 = .ok (.iconst (-1), 1) := by decide +kernel
theorem dX12_copy_28 : decode cX12_copy 28 = .ok (.if_icmp .eq 13, 3) := by decide +kernel
theorem dX12_copy_31 : decode cX12_copy 31 = .ok (.aload_n 0, 1) := by decide +kernel
theorem dX12_copy_32 : decode cX12_copy 32 = .ok (.getfield 92, 3) := by decide +kernel
theorem dX12_copy_35 : decode cX12_copy 35 = .ok (.iload_n 3, 1) := by decide +kernel
theorem dX12_copy_36 : decode cX12_copy 36 = .ok (.iaload, 1) := by decide +kernel
theorem dX12_copy_37 : decode cX12_copy 37 = .ok (.iconst (-1), 1) := by decide +kernel
theorem dX12_copy_38 : decode cX12_copy 38 = .ok (.if_icmp .ne 6, 3) := by decide +kernel
theorem dX12_copy_41 : decode cX12_copy 41 = .ok (.bipush (-11), 2) := by decide +kernel
theorem dX12_copy_43 : decode cX12_copy 43 = .ok (.ireturn, 1) := by decide +kernel
theorem dX12_copy_44 : decode cX12_copy 44 = .ok (.aload_n 0, 1) := by decide +kernel
theorem dX12_copy_45 : decode cX12_copy 45 = .ok (.getfield 92, 3) := by decide +kernel
theorem dX12_copy_48 : decode cX12_copy 48 = .ok (.iload_n 1, 1) := by decide +kernel
theorem dX12_copy_49 : decode cX12_copy 49 = .ok (.iaload, 1) := by decide +kernel
theorem dX12_copy_50 : decode cX12_copy 50 = .ok (.aload_n 0, 1) := by decide +kernel
theorem dX12_copy_51 : decode cX12_copy 51 = .ok (.getfield 92, 3) := by decide +kernel
theorem dX12_copy_54 : decode cX12_copy 54 = .ok (.iload_n 3, 1) := by decide +kernel
theorem dX12_copy_55 : decode cX12_copy 55 = .ok (.iaload, 1) := by decide +kernel
theorem dX12_copy_56 : decode cX12_copy 56 = .ok (.if_icmp .eq 6, 3) := by decide +kernel
theorem dX12_copy_59 : decode cX12_copy 59 = .ok (.bipush (-13), 2) := by decide +kernel
theorem dX12_copy_61 : decode cX12_copy 61 = .ok (.ireturn, 1) := by decide +kernel
theorem dX12_copy_62 : decode cX12_copy 62 = .ok (.iload 5, 2) := by decide +kernel
theorem dX12_copy_64 : decode cX12_copy 64 = .ok (.ifCond .lt 60, 3) := by decide +kernel
theorem dX12_copy_67 : decode cX12_copy 67 = .ok (.iload_n 2, 1) := by decide +kernel
theorem dX12_copy_68 : decode cX12_copy 68 = .ok (.ifCond .lt 56, 3) := by decide +kernel
theorem dX12_copy_71 : decode cX12_copy 71 = .ok (.iload 4, 2) := by decide +kernel
theorem dX12_copy_73 : decode cX12_copy 73 = .ok (.ifCond .lt 51, 3) := by decide +kernel
theorem dX12_copy_76 : decode cX12_copy 76 = .ok (.iload_n 2, 1) := by decide +kernel
theorem dX12_copy_77 : decode cX12_copy 77 = .ok (.aload_n 0, 1) := by decide +kernel
theorem dX12_copy_78 : decode cX12_copy 78 = .ok (.getfield 95, 3) := by decide +kernel
theorem dX12_copy_81 : decode cX12_copy 81 = .ok (.iload_n 1, 1) := by decide +kernel
theorem dX12_copy_82 : decode cX12_copy 82 = .ok (.iaload, 1) := by decide +kernel
theorem dX12_copy_83 : decode cX12_copy 83 = .ok (.if_icmp .gt 41, 3) := by decide +kernel
theorem dX12_copy_86 : decode cX12_copy 86 = .ok (.iload 4, 2) := by decide +kernel
theorem dX12_copy_88 : decode cX12_copy 88 = .ok (.aload_n 0, 1) := by decide +kernel
theorem dX12_copy_89 : decode cX12_copy 89 = .ok (.getfield 95, 3) := by decide +kernel
theorem dX12_copy_92 : decode cX12_copy 92 = .ok (.iload_n 3, 1) := by decide +kernel
theorem dX12_copy_93 : decode cX12_copy 93 = .ok (.iaload, 1) := by decide +kernel
theorem dX12_copy_94 : decode cX12_copy 94 = .ok (.if_icmp .gt 30, 3) := by decide +kernel
theorem dX12_copy_97 : decode cX12_copy 97 = .ok (.iload 5, 2) := by decide +kernel
theorem dX12_copy_99 : decode cX12_copy 99 = .ok (.aload_n 0, 1) := by decide +kernel
theorem dX12_copy_100 : decode cX12_copy 100 = .ok (.getfield 95, 3) := by decide +kernel
theorem dX12_copy_103 : decode cX12_copy 103 = .ok (.iload_n 1, 1) := by decide +kernel
theorem dX12_copy_104 : decode cX12_copy 104 = .ok (.iaload, 1) := by decide +kernel
theorem dX12_copy_105 : decode cX12_copy 105 = .ok (.iload_n 2, 1) := by decide +kernel
theorem dX12_copy_106 : decode cX12_copy 106 = .ok (.isub, 1) := by decide +kernel
theorem dX12_copy_107 : decode cX12_copy 107 = .ok (.if_icmp .gt 17, 3) := by decide +kernel
theorem dX12_copy_110 : decode cX12_copy 110 = .ok (.iload 5, 2) := by decide +kernel
theorem dX12_copy_112 : decode cX12_copy 112 = .ok (.aload_n 0, 1) := by decide +kernel
theorem dX12_copy_113 : decode cX12_copy 113 = .ok (.getfield 95, 3) := by decide +kernel
theorem dX12_copy_116 : decode cX12_copy 116 = .ok (.iload_n 3, 1) := by decide +kernel
theorem dX12_copy_117 : decode cX12_copy 117 = .ok (.iaload, 1) := by decide +kernel
theorem dX12_copy_118 : decode cX12_copy 118 = .ok (.iload 4, 2) := by decide +kernel
theorem dX12_copy_120 : decode cX12_copy 120 = .ok (.isub, 1) := by decide +kernel
theorem dX12_copy_121 : decode cX12_copy 121 = .ok (.if_icmp .le 6, 3) := by decide +kernel
theorem dX12_copy_124 : decode cX12_copy 124 = .ok (.bipush (-12), 2) := by decide +kernel
theorem dX12_copy_126 : decode cX12_copy 126 = .ok (.ireturn, 1) := by decide +kernel
theorem dX12_copy_127 : decode cX12_copy 127 = .ok (.bipush 60, 2) := by decide +kernel
theorem dX12_copy_129 : decode cX12_copy 129 = .ok (.iload_n 1, 1) := by decide +kernel
theorem dX12_copy_130 : decode cX12_copy 130 = .ok (.imul, 1) := by decide +kernel
theorem dX12_copy_131 : decode cX12_copy 131 = .ok (.iload_n 2, 1) := by decide +kernel
theorem dX12_copy_132 : decode cX12_copy 132 = .ok (.iadd, 1) := by decide +kernel
theorem dX12_copy_133 : decode cX12_copy 133 = .ok (.istore 6, 2) := by decide +kernel
theorem dX12_copy_135 : decode cX12_copy 135 = .ok (.bipush 60, 2) := by decide +kernel
theorem dX12_copy_137 : decode cX12_copy 137 = .ok (.iload_n 3, 1) := by decide +kernel
theorem dX12_copy_138 : decode cX12_copy 138 = .ok (.imul, 1) := by decide +kernel
theorem dX12_copy_139 : decode cX12_copy 139 = .ok (.iload 4, 2) := by decide +kernel
theorem dX12_copy_141 : decode cX12_copy 141 = .ok (.iadd, 1) := by decide +kernel
theorem dX12_copy_142 : decode cX12_copy 142 = .ok (.istore 7, 2) := by decide +kernel
theorem dX12_copy_144 : decode cX12_copy 144 = .ok (.iconst 0, 1) := by decide +kernel
theorem dX12_copy_145 : decode cX12_copy 145 = .ok (.istore 8, 2) := by decide +kernel
theorem dX12_copy_147 : decode cX12_copy 147 = .ok (.iload 8, 2) := by decide +kernel
theorem dX12_copy_149 : decode cX12_copy 149 = .ok (.iload 5, 2) := by decide +kernel
theorem dX12_copy_151 : decode cX12_copy 151 = .ok (.if_icmp .ge 50, 3) := by decide +kernel
theorem dX12_copy_154 : decode cX12_copy 154 = .ok (.iload 6, 2) := by decide +kernel
theorem dX12_copy_156 : decode cX12_copy 156 = .ok (.iload 7, 2) := by decide +kernel
theorem dX12_copy_158 : decode cX12_copy 158 = .ok (.if_icmp .ge 13, 3) := by decide +kernel
theorem dX12_copy_161 : decode cX12_copy 161 = .ok (.iload 5, 2) := by decide +kernel
theorem dX12_copy_163 : decode cX12_copy 163 = .ok (.iconst 1, 1) := by decide +kernel
theorem dX12_copy_164 : decode cX12_copy 164 = .ok (.isub, 1) := by decide +kernel
theorem dX12_copy_165 : decode cX12_copy 165 = .ok (.iload 8, 2) := by decide +kernel
theorem dX12_copy_167 : decode cX12_copy 167 = .ok (.isub, 1) := by decide +kernel
theorem dX12_copy_168 : decode cX12_copy 168 = .ok (.goto 5, 3) := by decide +kernel
theorem dX12_copy_171 : decode cX12_copy 171 = .ok (.iload 8, 2) := by decide +kernel
theorem dX12_copy_173 : decode cX12_copy 173 = .ok (.istore 9, 2) := by decide +kernel
theorem dX12_copy_175 : decode cX12_copy 175 = .ok (.aload_n 0, 1) := by decide +kernel
theorem dX12_copy_176 : decode cX12_copy 176 = .ok (.getfield 98, 3) := by decide +kernel
theorem dX12_copy_179 : decode cX12_copy 179 = .ok (.iload 7, 2) := by decide +kernel
theorem dX12_copy_181 : decode cX12_copy 181 = .ok (.iload 9, 2) := by decide +kernel
theorem dX12_copy_183 : decode cX12_copy 183 = .ok (.iadd, 1) := by decide +kernel
theorem dX12_copy_184 : decode cX12_copy 184 = .ok (.aload_n 0, 1) := by decide +kernel
theorem dX12_copy_185 : decode cX12_copy 185 = .ok (.getfield 98, 3) := by decide +kernel
theorem dX12_copy_188 : decode cX12_copy 188 = .ok (.iload 6, 2) := by decide +kernel
theorem dX12_copy_190 : decode cX12_copy 190 = .ok (.iload 9, 2) := by decide +kernel
theorem dX12_copy_192 : decode cX12_copy 192 = .ok (.iadd, 1) := by decide +kernel
theorem dX12_copy_193 : decode cX12_copy 193 = .ok (.iaload, 1) := by decide +kernel
theorem dX12_copy_194 : decode cX12_copy 194 = .ok (.iastore, 1) := by decide +kernel
theorem dX12_copy_195 : decode cX12_copy 195 = .ok (.iinc 8 1, 3) := by decide +kernel
theorem dX12_copy_198 : decode cX12_copy 198 = .ok (.goto (-51), 3) := by decide +kernel
theorem dX12_copy_201 : decode cX12_copy 201 = .ok (.iload 5, 2) := by decide +kernel
theorem dX12_copy_203 : decode cX12_copy 203 = .ok (.ireturn, 1) := by decide +kernel
theorem dX12_sitters_0 : decode cX12_sitters 0 = .ok (.iload_n 1, 1) := by decide +kernel
theorem dX12_sitters_1 : decode cX12_sitters 1 = .ok (.iconst 0, 1) := by decide +kernel
theorem dX12_sitters_2 : decode cX12_sitters 2 = .ok (.iconst 3, 1) := by decide +kernel
theorem dX12_sitters_3 : decode cX12_sitters 3 = .ok (.invokestatic 159, 3) := by decide +kernel
theorem dX12_sitters_6 : decode cX12_sitters 6 = .ok (.ifCond .eq 23, 3) := by decide +kernel
theorem dX12_sitters_9 : decode cX12_sitters 9 = .ok (.iload_n 2, 1) := by decide +kernel
theorem dX12_sitters_10 : decode cX12_sitters 10 = .ok (.iconst 0, 1) := by decide +kernel
theorem dX12_sitters_11 : decode cX12_sitters 11 = .ok (.iconst 2, 1) := by decide +kernel
theorem dX12_sitters_12 : decode cX12_sitters 12 = .ok (.invokestatic 159, 3) := by decide +kernel
theorem dX12_sitters_15 : decode cX12_sitters 15 = .ok (.ifCond .eq 14, 3) := by decide +kernel
theorem dX12_sitters_18 : decode cX12_sitters 18 = .ok (.iload 4, 2) := by decide +kernel
theorem dX12_sitters_20 : decode cX12_sitters 20 = .ok (.iconst 0, 1) := by decide +kernel
theorem dX12_sitters_21 : decode cX12_sitters 21 = .ok (.bipush 8, 2) := by decide +kernel
theorem dX12_sitters_23 : decode cX12_sitters 23 = .ok (.invokestatic 159, 3) := by decide +kernel
theorem dX12_sitters_26 : decode cX12_sitters 26 = .ok (.ifCond .ne 6, 3) := by decide +kernel
theorem dX12_sitters_29 : decode cX12_sitters 29 = .ok (.bipush (-2), 2) := by decide +kernel
theorem dX12_sitters_31 : decode cX12_sitters 31 = .ok (.ireturn, 1) := by decide +kernel
theorem dX12_sitters_32 : decode cX12_sitters 32 = .ok (.aload_n 0, 1) := by decide +kernel
theorem dX12_sitters_33 : decode cX12_sitters 33 = .ok (.getfield 92, 3) := by decide +kernel
theorem dX12_sitters_36 : decode cX12_sitters 36 = .ok (.iload_n 1, 1) := by decide +kernel
theorem dX12_sitters_37 : decode cX12_sitters 37 = .ok (.iaload, 1) := by decide +kernel
theorem dX12_sitters_38 : decode cX12_sitters 38 = .ok (.iconst (-1), 1) := by decide +kernel
theorem dX12_sitters_39 : decode cX12_sitters 39 = .ok (.if_icmp .ne 6, 3) := by decide +kernel
theorem dX12_sitters_42 : decode cX12_sitters 42 = .ok (.bipush (-11), 2) := by decide +kernel
theorem dX12_sitters_44 : decode cX12_sitters 44 = .ok (.ireturn, 1) := by decide +kernel
theorem dX12_sitters_45 : decode cX12_sitters 45 = .ok (.aload_n 0, 1) := by decide +kernel
theorem dX12_sitters_46 : decode cX12_sitters 46 = .ok (.getfield 92, 3) := by decide +kernel
theorem dX12_sitters_49 : decode cX12_sitters 49 = .ok (.iload_n 1, 1) := by decide +kernel
theorem dX12_sitters_50 : decode cX12_sitters 50 = .ok (.iaload, 1) := by decide +kernel
theorem dX12_sitters_51 : decode cX12_sitters 51 = .ok (.iload_n 2, 1) := by decide +kernel
theorem dX12_sitters_52 : decode cX12_sitters 52 = .ok (.if_icmp .eq 6, 3) := by decide +kernel
theorem dX12_sitters_55 : decode cX12_sitters 55 = .ok (.bipush (-13), 2) := by decide +kernel
theorem dX12_sitters_57 : decode cX12_sitters 57 = .ok (.ireturn, 1) := by decide +kernel
theorem dX12_sitters_58 : decode cX12_sitters 58 = .ok (.iconst 0, 1) := by decide +kernel
theorem dX12_sitters_59 : decode cX12_sitters 59 = .ok (.istore 5, 2) := by decide +kernel
theorem dX12_sitters_61 : decode cX12_sitters 61 = .ok (.iconst 0, 1) := by decide +kernel
theorem dX12_sitters_62 : decode cX12_sitters 62 = .ok (.istore 6, 2) := by decide +kernel
theorem dX12_sitters_64 : decode cX12_sitters 64 = .ok (.iload 6, 2) := by decide +kernel
theorem dX12_sitters_66 : decode cX12_sitters 66 = .ok (.iload 4, 2) := by decide +kernel
theorem dX12_sitters_68 : decode cX12_sitters 68 = .ok (.if_icmp .ge 55, 3) := by decide +kernel
theorem dX12_sitters_71 : decode cX12_sitters 71 = .ok (.iload 6, 2) := by decide +kernel
theorem dX12_sitters_73 : decode cX12_sitters 73 = .ok (.aload_n 0, 1) := by decide +kernel
theorem dX12_sitters_74 : decode cX12_sitters 74 = .ok (.getfield 95, 3) := by decide +kernel
theorem dX12_sitters_77 : decode cX12_sitters 77 = .ok (.iload_n 1, 1) := by decide +kernel
theorem dX12_sitters_78 : decode cX12_sitters 78 = .ok (.iaload, 1) := by decide +kernel
theorem dX12_sitters_79 : decode cX12_sitters 79 = .ok (.if_icmp .lt 6, 3) := by decide +kernel
theorem dX12_sitters_82 : decode cX12_sitters 82 = .ok (.bipush (-12), 2) := by decide +kernel
theorem dX12_sitters_84 : decode cX12_sitters 84 = .ok (.ireturn, 1) := by decide +kernel
theorem dX12_sitters_85 : decode cX12_sitters 85 = .ok (.iload 5, 2) := by decide +kernel
theorem dX12_sitters_87 : decode cX12_sitters 87 = .ok (.aload_n 0, 1) := by decide +kernel
theorem dX12_sitters_88 : decode cX12_sitters 88 = .ok (.iload_n 3, 1) := by decide +kernel
theorem dX12_sitters_89 : decode cX12_sitters 89 = .ok (.iload 6, 2) := by decide +kernel
theorem dX12_sitters_91 : decode cX12_sitters 91 = .ok (.aload_n 0, 1) := by decide +kernel
theorem dX12_sitters_92 : decode cX12_sitters 92 = .ok (.getfield 98, 3) := by decide +kernel
theorem dX12_sitters_95 : decode cX12_sitters 95 = .ok (.bipush 60, 2) := by decide +kernel
theorem dX12_sitters_97 : decode cX12_sitters 97 = .ok (.iload_n 1, 1) := by decide +kernel
theorem dX12_sitters_98 : decode cX12_sitters 98 = .ok (.imul, 1) := by decide +kernel
theorem dX12_sitters_99 : decode cX12_sitters 99 = .ok (.iload 6, 2) := by decide +kernel
theorem dX12_sitters_101 : decode cX12_sitters 101 = .ok (.iadd, 1) := by decide +kernel
theorem dX12_sitters_102 : decode cX12_sitters 102 = .ok (.iaload, 1) := by decide +kernel
theorem dX12_sitters_103 : decode cX12_sitters 103 = .ok (.invokevirtual 389, 3) := by decide +kernel
theorem dX12_sitters_106 : decode cX12_sitters 106 = .ok (.ifCond .lt 7, 3) := by decide +kernel
theorem dX12_sitters_109 : decode cX12_sitters 109 = .ok (.iconst 1, 1) := by decide +kernel
theorem dX12_sitters_110 : decode cX12_sitters 110 = .ok (.goto 4, 3) := by decide +kernel
theorem dX12_sitters_113 : decode cX12_sitters 113 = .ok (.iconst 0, 1) := by decide +kernel
theorem dX12_sitters_114 : decode cX12_sitters 114 = .ok (.iadd, 1) := by decide +kernel
theorem dX12_sitters_115 : decode cX12_sitters 115 = .ok (.istore 5, 2) := by decide +kernel
theorem dX12_sitters_117 : decode cX12_sitters 117 = .ok (.iinc 6 1, 3) := by decide +kernel
theorem dX12_sitters_120 : decode cX12_sitters 120 = .ok (.goto (-56), 3) := by decide +kernel
theorem dX12_sitters_123 : decode cX12_sitters 123 = .ok (.iload 5, 2) := by decide +kernel
theorem dX12_sitters_125 : decode cX12_sitters 125 = .ok (.ireturn, 1) := by decide +kernel
theorem dX12_isUnder_0 : decode cX12_isUnder 0 = .ok (.iload_n 1, 1) := by decide +kernel
theorem dX12_isUnder_1 : decode cX12_isUnder 1 = .ok (.ifCond .eq 28, 3) := by decide +kernel
theorem dX12_isUnder_4 : decode cX12_isUnder 4 = .ok (.iload_n 0, 1) := by decide +kernel
theorem dX12_isUnder_5 : decode cX12_isUnder 5 = .ok (.iload_n 1, 1) := by decide +kernel
theorem dX12_isUnder_6 : decode cX12_isUnder 6 = .ok (.if_icmp .eq 23, 3) := by decide +kernel
theorem dX12_isUnder_9 : decode cX12_isUnder 9 = .ok (.iload_n 1, 1) := by decide +kernel
theorem dX12_isUnder_10 : decode cX12_isUnder 10 = .ok (.iconst 1, 1) := by decide +kernel
theorem dX12_isUnder_11 : decode cX12_isUnder 11 = .ok (.if_icmp .ne 8, 3) := by decide +kernel
theorem dX12_isUnder_14 : decode cX12_isUnder 14 = .ok (.iload_n 0, 1) := by decide +kernel
theorem dX12_isUnder_15 : decode cX12_isUnder 15 = .ok (.iconst 3, 1) := by decide +kernel
theorem dX12_isUnder_16 : decode cX12_isUnder 16 = .ok (.if_icmp .eq 13, 3) := by decide +kernel
theorem dX12_isUnder_19 : decode cX12_isUnder 19 = .ok (.iload_n 1, 1) := by decide +kernel
theorem dX12_isUnder_20 : decode cX12_isUnder 20 = .ok (.iconst 2, 1) := by decide +kernel
theorem dX12_isUnder_21 : decode cX12_isUnder 21 = .ok (.if_icmp .ne 12, 3) := by decide +kernel
theorem dX12_isUnder_24 : decode cX12_isUnder 24 = .ok (.iload_n 0, 1) := by decide +kernel
theorem dX12_isUnder_25 : decode cX12_isUnder 25 = .ok (.iconst 4, 1) := by decide +kernel
theorem dX12_isUnder_26 : decode cX12_isUnder 26 = .ok (.if_icmp .ne 7, 3) := by decide +kernel
theorem dX12_isUnder_29 : decode cX12_isUnder 29 = .ok (.iconst 1, 1) := by decide +kernel
theorem dX12_isUnder_30 : decode cX12_isUnder 30 = .ok (.goto 4, 3) := by decide +kernel
theorem dX12_isUnder_33 : decode cX12_isUnder 33 = .ok (.iconst 0, 1) := by decide +kernel
theorem dX12_isUnder_34 : decode cX12_isUnder 34 = .ok (.ireturn, 1) := by decide +kernel
theorem dX12_taken_0 : decode cX12_taken 0 = .ok (.iload_n 2, 1) := by decide +kernel
theorem dX12_taken_1 : decode cX12_taken 1 = .ok (.iconst 0, 1) := by decide +kernel
theorem dX12_taken_2 : decode cX12_taken 2 = .ok (.bipush 6, 2) := by decide +kernel
theorem dX12_taken_4 : decode cX12_taken 4 = .ok (.invokestatic 159, 3) := by decide +kernel
theorem dX12_taken_7 : decode cX12_taken 7 = .ok (.ifCond .ne 6, 3) := by decide +kernel
theorem dX12_taken_10 : decode cX12_taken 10 = .ok (.bipush (-2), 2) := by decide +kernel
theorem dX12_taken_12 : decode cX12_taken 12 = .ok (.ireturn, 1) := by decide +kernel
theorem dX12_taken_13 : decode cX12_taken 13 = .ok (.iload_n 1, 1) := by decide +kernel
theorem dX12_taken_14 : decode cX12_taken 14 = .ok (.iconst 0, 1) := by decide +kernel
theorem dX12_taken_15 : decode cX12_taken 15 = .ok (.bipush 11, 2) := by decide +kernel
theorem dX12_taken_17 : decode cX12_taken 17 = .ok (.invokestatic 159, 3) := by decide +kernel
theorem dX12_taken_20 : decode cX12_taken 20 = .ok (.ifCond .ne 6, 3) := by decide +kernel
theorem dX12_taken_23 : decode cX12_taken 23 = .ok (.bipush (-12), 2) := by decide +kernel
theorem dX12_taken_25 : decode cX12_taken 25 = .ok (.ireturn, 1) := by decide +kernel
theorem dX12_taken_26 : decode cX12_taken 26 = .ok (.iload_n 1, 1) := by decide +kernel
theorem dX12_taken_27 : decode cX12_taken 27 = .ok (.bipush 6, 2) := by decide +kernel
theorem dX12_taken_29 : decode cX12_taken 29 = .ok (.if_icmp .ge 34, 3) := by decide +kernel
theorem dX12_taken_32 : decode cX12_taken 32 = .ok (.iload_n 1, 1) := by decide +kernel
theorem dX12_taken_33 : decode cX12_taken 33 = .ok (.aload_n 0, 1) := by decide +kernel
theorem dX12_taken_34 : decode cX12_taken 34 = .ok (.getfield 197, 3) := by decide +kernel
theorem dX12_taken_37 : decode cX12_taken 37 = .ok (.if_icmp .lt 8, 3) := by decide +kernel
theorem dX12_taken_40 : decode cX12_taken 40 = .ok (.bipush (-11), 2) := by decide +kernel
theorem dX12_taken_42 : decode cX12_taken 42 = .ok (.goto 20, 3) := by decide +kernel
theorem dX12_taken_45 : decode cX12_taken 45 = .ok (.iload_n 2, 1) := by decide +kernel
theorem dX12_taken_46 : decode cX12_taken 46 = .ok (.bipush 6, 2) := by decide +kernel
theorem dX12_taken_48 : decode cX12_taken 48 = .ok (.if_icmp .ne 12, 3) := by decide +kernel
theorem dX12_taken_51 : decode cX12_taken 51 = .ok (.aload_n 0, 1) := by decide +kernel
theorem dX12_taken_52 : decode cX12_taken 52 = .ok (.getfield 40, 3) := by decide +kernel
theorem dX12_taken_55 : decode cX12_taken 55 = .ok (.iload_n 1, 1) := by decide +kernel
theorem dX12_taken_56 : decode cX12_taken 56 = .ok (.iaload, 1) := by decide +kernel
theorem dX12_taken_57 : decode cX12_taken 57 = .ok (.goto 5, 3) := by decide +kernel
theorem dX12_taken_60 : decode cX12_taken 60 = .ok (.bipush (-13), 2) := by decide +kernel
theorem dX12_taken_62 : decode cX12_taken 62 = .ok (.ireturn, 1) := by decide +kernel
theorem dX12_taken_63 : decode cX12_taken 63 = .ok (.iload_n 1, 1) := by decide +kernel
theorem dX12_taken_64 : decode cX12_taken 64 = .ok (.bipush 6, 2) := by decide +kernel
theorem dX12_taken_66 : decode cX12_taken 66 = .ok (.isub, 1) := by decide +kernel
theorem dX12_taken_67 : decode cX12_taken 67 = .ok (.aload_n 0, 1) := by decide +kernel
theorem dX12_taken_68 : decode cX12_taken 68 = .ok (.getfield 156, 3) := by decide +kernel
theorem dX12_taken_71 : decode cX12_taken 71 = .ok (.if_icmp .lt 8, 3) := by decide +kernel
theorem dX12_taken_74 : decode cX12_taken 74 = .ok (.bipush (-11), 2) := by decide +kernel
theorem dX12_taken_76 : decode cX12_taken 76 = .ok (.goto 34, 3) := by decide +kernel
theorem dX12_taken_79 : decode cX12_taken 79 = .ok (.iload_n 2, 1) := by decide +kernel
theorem dX12_taken_80 : decode cX12_taken 80 = .ok (.bipush 6, 2) := by decide +kernel
theorem dX12_taken_82 : decode cX12_taken 82 = .ok (.if_icmp .ge 26, 3) := by decide +kernel
theorem dX12_taken_85 : decode cX12_taken 85 = .ok (.aload_n 0, 1) := by decide +kernel
theorem dX12_taken_86 : decode cX12_taken 86 = .ok (.getfield 19, 3) := by decide +kernel
theorem dX12_taken_89 : decode cX12_taken 89 = .ok (.iload_n 1, 1) := by decide +kernel
theorem dX12_taken_90 : decode cX12_taken 90 = .ok (.bipush 6, 2) := by decide +kernel
theorem dX12_taken_92 : decode cX12_taken 92 = .ok (.isub, 1) := by decide +kernel
theorem dX12_taken_93 : decode cX12_taken 93 = .ok (.iaload, 1) := by decide +kernel
theorem dX12_taken_94 : decode cX12_taken 94 = .ok (.iload_n 2, 1) := by decide +kernel
theorem dX12_taken_95 : decode cX12_taken 95 = .ok (.invokestatic 392, 3) := by decide +kernel
theorem dX12_taken_98 : decode cX12_taken 98 = .ok (.ifCond .eq 10, 3) := by decide +kernel
theorem dX12_taken_101 : decode cX12_taken 101 = .ok (.iload_n 1, 1) := by decide +kernel
theorem dX12_taken_102 : decode cX12_taken 102 = .ok (.bipush 6, 2) := by decide +kernel
theorem dX12_taken_104 : decode cX12_taken 104 = .ok (.isub, 1) := by decide +kernel
theorem dX12_taken_105 : decode cX12_taken 105 = .ok (.goto 5, 3) := by decide +kernel
theorem dX12_taken_108 : decode cX12_taken 108 = .ok (.bipush (-13), 2) := by decide +kernel
theorem dX12_taken_110 : decode cX12_taken 110 = .ok (.ireturn, 1) := by decide +kernel
