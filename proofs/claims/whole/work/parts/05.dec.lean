theorem dX12_init_0 : decode cX12_init 0 = .ok (.aload_n 0, 1) := by decide +kernel
theorem dX12_init_1 : decode cX12_init 1 = .ok (.invokespecial 1, 3) := by decide +kernel
theorem dX12_init_4 : decode cX12_init 4 = .ok (.aload_n 0, 1) := by decide +kernel
theorem dX12_init_5 : decode cX12_init 5 = .ok (.bipush 13, 2) := by decide +kernel
theorem dX12_init_7 : decode cX12_init 7 = .ok (.newarray .int, 2) := by decide +kernel
theorem dX12_init_9 : decode cX12_init 9 = .ok (.dup, 1) := by decide +kernel
theorem dX12_init_10 : decode cX12_init 10 = .ok (.iconst 0, 1) := by decide +kernel
theorem dX12_init_11 : decode cX12_init 11 = .ok (.iconst 3, 1) := by decide +kernel
theorem dX12_init_12 : decode cX12_init 12 = .ok (.iastore, 1) := by decide +kernel
theorem dX12_init_13 : decode cX12_init 13 = .ok (.dup, 1) := by decide +kernel
theorem dX12_init_14 : decode cX12_init 14 = .ok (.iconst 1, 1) := by decide +kernel
theorem dX12_init_15 : decode cX12_init 15 = .ok (.bipush 8, 2) := by decide +kernel
theorem dX12_init_17 : decode cX12_init 17 = .ok (.iastore, 1) := by decide +kernel
theorem dX12_init_18 : decode cX12_init 18 = .ok (.dup, 1) := by decide +kernel
theorem dX12_init_19 : decode cX12_init 19 = .ok (.iconst 2, 1) := by decide +kernel
theorem dX12_init_20 : decode cX12_init 20 = .ok (.iconst 3, 1) := by decide +kernel
theorem dX12_init_21 : decode cX12_init 21 = .ok (.iastore, 1) := by decide +kernel
theorem dX12_init_22 : decode cX12_init 22 = .ok (.dup, 1) := by decide +kernel
theorem dX12_init_23 : decode cX12_init 23 = .ok (.iconst 3, 1) := by decide +kernel
theorem dX12_init_24 : decode cX12_init 24 = .ok (.iconst 2, 1) := by decide +kernel
theorem dX12_init_25 : decode cX12_init 25 = .ok (.iastore, 1) := by decide +kernel
theorem dX12_init_26 : decode cX12_init 26 = .ok (.dup, 1) := by decide +kernel
theorem dX12_init_27 : decode cX12_init 27 = .ok (.iconst 4, 1) := by decide +kernel
theorem dX12_init_28 : decode cX12_init 28 = .ok (.iconst 4, 1) := by decide +kernel
theorem dX12_init_29 : decode cX12_init 29 = .ok (.iastore, 1) := by decide +kernel
theorem dX12_init_30 : decode cX12_init 30 = .ok (.dup, 1) := by decide +kernel
theorem dX12_init_31 : decode cX12_init 31 = .ok (.iconst 5, 1) := by decide +kernel
theorem dX12_init_32 : decode cX12_init 32 = .ok (.iconst 4, 1) := by decide +kernel
theorem dX12_init_33 : decode cX12_init 33 = .ok (.iastore, 1) := by decide +kernel
theorem dX12_init_34 : decode cX12_init 34 = .ok (.dup, 1) := by decide +kernel
theorem dX12_init_35 : decode cX12_init 35 = .ok (.bipush 6, 2) := by decide +kernel
theorem dX12_init_37 : decode cX12_init 37 = .ok (.iconst 2, 1) := by decide +kernel
theorem dX12_init_38 : decode cX12_init 38 = .ok (.iastore, 1) := by decide +kernel
theorem dX12_init_39 : decode cX12_init 39 = .ok (.dup, 1) := by decide +kernel
theorem dX12_init_40 : decode cX12_init 40 = .ok (.bipush 7, 2) := by decide +kernel
theorem dX12_init_42 : decode cX12_init 42 = .ok (.iconst 5, 1) := by decide +kernel
theorem dX12_init_43 : decode cX12_init 43 = .ok (.iastore, 1) := by decide +kernel
theorem dX12_init_44 : decode cX12_init 44 = .ok (.dup, 1) := by decide +kernel
theorem dX12_init_45 : decode cX12_init 45 = .ok (.bipush 8, 2) := by decide +kernel
theorem dX12_init_47 : decode cX12_init 47 = .ok (.bipush 6, 2) := by decide +kernel
theorem dX12_init_49 : decode cX12_init 49 = .ok (.iastore, 1) := by decide +kernel
theorem dX12_init_50 : decode cX12_init 50 = .ok (.dup, 1) := by decide +kernel
theorem dX12_init_51 : decode cX12_init 51 = .ok (.bipush 9, 2) := by decide +kernel
theorem dX12_init_53 : decode cX12_init 53 = .ok (.iconst 2, 1) := by decide +kernel
theorem dX12_init_54 : decode cX12_init 54 = .ok (.iastore, 1) := by decide +kernel
theorem dX12_init_55 : decode cX12_init 55 = .ok (.dup, 1) := by decide +kernel
theorem dX12_init_56 : decode cX12_init 56 = .ok (.bipush 10, 2) := by decide +kernel
theorem dX12_init_58 : decode cX12_init 58 = .ok (.bipush 12, 2) := by decide +kernel
theorem dX12_init_60 : decode cX12_init 60 = .ok (.iastore, 1) := by decide +kernel
theorem dX12_init_61 : decode cX12_init 61 = .ok (.dup, 1) := by decide +kernel
theorem dX12_init_62 : decode cX12_init 62 = .ok (.bipush 11, 2) := by decide +kernel
theorem dX12_init_64 : decode cX12_init 64 = .ok (.bipush 10, 2) := by decide +kernel
theorem dX12_init_66 : decode cX12_init 66 = .ok (.iastore, 1) := by decide +kernel
theorem dX12_init_67 : decode cX12_init 67 = .ok (.dup, 1) := by decide +kernel
theorem dX12_init_68 : decode cX12_init 68 = .ok (.bipush 12, 2) := by decide +kernel
theorem dX12_init_70 : decode cX12_init 70 = .ok (.iconst 3, 1) := by decide +kernel
theorem dX12_init_71 : decode cX12_init 71 = .ok (.iastore, 1) := by decide +kernel
theorem dX12_init_72 : decode cX12_init 72 = .ok (.putfield 7, 3) := by decide +kernel
theorem dX12_init_75 : decode cX12_init 75 = .ok (.aload_n 0, 1) := by decide +kernel
theorem dX12_init_76 : decode cX12_init 76 = .ok (.iconst 4, 1) := by decide +kernel
theorem dX12_init_77 : decode cX12_init 77 = .ok (.putfield 13, 3) := by decide +kernel
theorem dX12_init_80 : decode cX12_init 80 = .ok (.aload_n 0, 1) := by decide +kernel
theorem dX12_init_81 : decode cX12_init 81 = .ok (.iconst 4, 1) := by decide +kernel
theorem dX12_init_82 : decode cX12_init 82 = .ok (.putfield 17, 3) := by decide +kernel
theorem dX12_init_85 : decode cX12_init 85 = .ok (.aload_n 0, 1) := by decide +kernel
theorem dX12_init_86 : decode cX12_init 86 = .ok (.iconst 1, 1) := by decide +kernel
theorem dX12_init_87 : decode cX12_init 87 = .ok (.putfield 20, 3) := by decide +kernel
theorem dX12_init_90 : decode cX12_init 90 = .ok (.aload_n 0, 1) := by decide +kernel
theorem dX12_init_91 : decode cX12_init 91 = .ok (.iconst 4, 1) := by decide +kernel
theorem dX12_init_92 : decode cX12_init 92 = .ok (.newarray .int, 2) := by decide +kernel
theorem dX12_init_94 : decode cX12_init 94 = .ok (.dup, 1) := by decide +kernel
theorem dX12_init_95 : decode cX12_init 95 = .ok (.iconst 0, 1) := by decide +kernel
theorem dX12_init_96 : decode cX12_init 96 = .ok (.bipush (-2), 2) := by decide +kernel
theorem dX12_init_98 : decode cX12_init 98 = .ok (.iastore, 1) := by decide +kernel
theorem dX12_init_99 : decode cX12_init 99 = .ok (.dup, 1) := by decide +kernel
theorem dX12_init_100 : decode cX12_init 100 = .ok (.iconst 1, 1) := by decide +kernel
theorem dX12_init_101 : decode cX12_init 101 = .ok (.bipush (-2), 2) := by decide +kernel
theorem dX12_init_103 : decode cX12_init 103 = .ok (.iastore, 1) := by decide +kernel
theorem dX12_init_104 : decode cX12_init 104 = .ok (.dup, 1) := by decide +kernel
theorem dX12_init_105 : decode cX12_init 105 = .ok (.iconst 2, 1) := by decide +kernel
theorem dX12_init_106 : decode cX12_init 106 = .ok (.bipush (-2), 2) := by decide +kernel
theorem dX12_init_108 : decode cX12_init 108 = .ok (.iastore, 1) := by decide +kernel
theorem dX12_init_109 : decode cX12_init 109 = .ok (.dup, 1) := by decide +kernel
theorem dX12_init_110 : decode cX12_init 110 = .ok (.iconst 3, 1) := by decide +kernel
theorem dX12_init_111 : decode cX12_init 111 = .ok (.bipush (-2), 2) := by decide +kernel
theorem dX12_init_113 : decode cX12_init 113 = .ok (.iastore, 1) := by decide +kernel
theorem dX12_init_114 : decode cX12_init 114 = .ok (.putfield 23, 3) := by decide +kernel
theorem dX12_init_117 : decode cX12_init 117 = .ok (.aload_n 0, 1) := by decide +kernel
theorem dX12_init_118 : decode cX12_init 118 = .ok (.sipush 1024, 3) := by decide +kernel
theorem dX12_init_121 : decode cX12_init 121 = .ok (.newarray .int, 2) := by decide +kernel
theorem dX12_init_123 : decode cX12_init 123 = .ok (.putfield 26, 3) := by decide +kernel
theorem dX12_init_126 : decode cX12_init 126 = .ok (.aload_n 0, 1) := by decide +kernel
theorem dX12_init_127 : decode cX12_init 127 = .ok (.sipush 400, 3) := by decide +kernel
theorem dX12_init_130 : decode cX12_init 130 = .ok (.newarray .int, 2) := by decide +kernel
theorem dX12_init_132 : decode cX12_init 132 = .ok (.putfield 29, 3) := by decide +kernel
theorem dX12_init_135 : decode cX12_init 135 = .ok (.aload_n 0, 1) := by decide +kernel
theorem dX12_init_136 : decode cX12_init 136 = .ok (.sipush 400, 3) := by decide +kernel
theorem dX12_init_139 : decode cX12_init 139 = .ok (.newarray .int, 2) := by decide +kernel
theorem dX12_init_141 : decode cX12_init 141 = .ok (.putfield 32, 3) := by decide +kernel
theorem dX12_init_144 : decode cX12_init 144 = .ok (.aload_n 0, 1) := by decide +kernel
theorem dX12_init_145 : decode cX12_init 145 = .ok (.sipush 400, 3) := by decide +kernel
theorem dX12_init_148 : decode cX12_init 148 = .ok (.newarray .int, 2) := by decide +kernel
theorem dX12_init_150 : decode cX12_init 150 = .ok (.putfield 35, 3) := by decide +kernel
theorem dX12_init_153 : decode cX12_init 153 = .ok (.aload_n 0, 1) := by decide +kernel
theorem dX12_init_154 : decode cX12_init 154 = .ok (.sipush 400, 3) := by decide +kernel
theorem dX12_init_157 : decode cX12_init 157 = .ok (.newarray .int, 2) := by decide +kernel
theorem dX12_init_159 : decode cX12_init 159 = .ok (.putfield 38, 3) := by decide +kernel
theorem dX12_init_162 : decode cX12_init 162 = .ok (.aload_n 0, 1) := by decide +kernel
theorem dX12_init_163 : decode cX12_init 163 = .ok (.sipush 400, 3) := by decide +kernel
theorem dX12_init_166 : decode cX12_init 166 = .ok (.newarray .int, 2) := by decide +kernel
theorem dX12_init_168 : decode cX12_init 168 = .ok (.putfield 41, 3) := by decide +kernel
theorem dX12_init_171 : decode cX12_init 171 = .ok (.aload_n 0, 1) := by decide +kernel
theorem dX12_init_172 : decode cX12_init 172 = .ok (.sipush 400, 3) := by decide +kernel
theorem dX12_init_175 : decode cX12_init 175 = .ok (.newarray .int, 2) := by decide +kernel
theorem dX12_init_177 : decode cX12_init 177 = .ok (.putfield 44, 3) := by decide +kernel
theorem dX12_init_180 : decode cX12_init 180 = .ok (.aload_n 0, 1) := by decide +kernel
theorem dX12_init_181 : decode cX12_init 181 = .ok (.sipush 400, 3) := by decide +kernel
theorem dX12_init_184 : decode cX12_init 184 = .ok (.newarray .int, 2) := by decide +kernel
theorem dX12_init_186 : decode cX12_init 186 = .ok (.putfield 47, 3) := by decide +kernel
theorem dX12_init_189 : decode cX12_init 189 = .ok (.aload_n 0, 1) := by decide +kernel
theorem dX12_init_190 : decode cX12_init 190 = .ok (.sipush 400, 3) := by decide +kernel
theorem dX12_init_193 : decode cX12_init 193 = .ok (.newarray .int, 2) := by decide +kernel
theorem dX12_init_195 : decode cX12_init 195 = .ok (.putfield 50, 3) := by decide +kernel
theorem dX12_init_198 : decode cX12_init 198 = .ok (.aload_n 0, 1) := by decide +kernel
theorem dX12_init_199 : decode cX12_init 199 = .ok (.iconst 4, 1) := by decide +kernel
theorem dX12_init_200 : decode cX12_init 200 = .ok (.newarray .int, 2) := by decide +kernel
theorem dX12_init_202 : decode cX12_init 202 = .ok (.putfield 53, 3) := by decide +kernel
theorem dX12_init_205 : decode cX12_init 205 = .ok (.aload_n 0, 1) := by decide +kernel
theorem dX12_init_206 : decode cX12_init 206 = .ok (.iconst (-1), 1) := by decide +kernel
theorem dX12_init_207 : decode cX12_init 207 = .ok (.putfield 56, 3) := by decide +kernel
theorem dX12_init_210 : decode cX12_init 210 = .ok (.aload_n 0, 1) := by decide +kernel
theorem dX12_init_211 : decode cX12_init 211 = .ok (.bipush 40, 2) := by decide +kernel
theorem dX12_init_213 : decode cX12_init 213 = .ok (.newarray .int, 2) := by decide +kernel
theorem dX12_init_215 : decode cX12_init 215 = .ok (.putfield 59, 3) := by decide +kernel
theorem dX12_init_218 : decode cX12_init 218 = .ok (.aload_n 0, 1) := by decide +kernel
theorem dX12_init_219 : decode cX12_init 219 = .ok (.bipush 40, 2) := by decide +kernel
theorem dX12_init_221 : decode cX12_init 221 = .ok (.newarray .int, 2) := by decide +kernel
theorem dX12_init_223 : decode cX12_init 223 = .ok (.putfield 62, 3) := by decide +kernel
theorem dX12_init_226 : decode cX12_init 226 = .ok (.aload_n 0, 1) := by decide +kernel
theorem dX12_init_227 : decode cX12_init 227 = .ok (.bipush 40, 2) := by decide +kernel
theorem dX12_init_229 : decode cX12_init 229 = .ok (.newarray .int, 2) := by decide +kernel
theorem dX12_init_231 : decode cX12_init 231 = .ok (.putfield 65, 3) := by decide +kernel
theorem dX12_init_234 : decode cX12_init 234 = .ok (.aload_n 0, 1) := by decide +kernel
theorem dX12_init_235 : decode cX12_init 235 = .ok (.sipush 400, 3) := by decide +kernel
theorem dX12_init_238 : decode cX12_init 238 = .ok (.newarray .int, 2) := by decide +kernel
theorem dX12_init_240 : decode cX12_init 240 = .ok (.putfield 68, 3) := by decide +kernel
theorem dX12_init_243 : decode cX12_init 243 = .ok (.aload_n 0, 1) := by decide +kernel
theorem dX12_init_244 : decode cX12_init 244 = .ok (.sipush 400, 3) := by decide +kernel
theorem dX12_init_247 : decode cX12_init 247 = .ok (.newarray .int, 2) := by decide +kernel
theorem dX12_init_249 : decode cX12_init 249 = .ok (.putfield 71, 3) := by decide +kernel
theorem dX12_init_252 : decode cX12_init 252 = .ok (.aload_n 0, 1) := by decide +kernel
theorem dX12_init_253 : decode cX12_init 253 = .ok (.sipush 400, 3) := by decide +kernel
theorem dX12_init_256 : decode cX12_init 256 = .ok (.newarray .int, 2) := by decide +kernel
theorem dX12_init_258 : decode cX12_init 258 = .ok (.putfield 74, 3) := by decide +kernel
theorem dX12_init_261 : decode cX12_init 261 = .ok (.aload_n 0, 1) := by decide +kernel
theorem dX12_init_262 : decode cX12_init 262 = .ok (.sipush 400, 3) := by decide +kernel
theorem dX12_init_265 : decode cX12_init 265 = .ok (.newarray .int, 2) := by decide +kernel
theorem dX12_init_267 : decode cX12_init 267 = .ok (.putfield 77, 3) := by decide +kernel
theorem dX12_init_270 : decode cX12_init 270 = .ok (.aload_n 0, 1) := by decide +kernel
theorem dX12_init_271 : decode cX12_init 271 = .ok (.sipush 400, 3) := by decide +kernel
theorem dX12_init_274 : decode cX12_init 274 = .ok (.newarray .int, 2) := by decide +kernel
theorem dX12_init_276 : decode cX12_init 276 = .ok (.putfield 80, 3) := by decide +kernel
theorem dX12_init_279 : decode cX12_init 279 = .ok (.aload_n 0, 1) := by decide +kernel
theorem dX12_init_280 : decode cX12_init 280 = .ok (.sipush 400, 3) := by decide +kernel
theorem dX12_init_283 : decode cX12_init 283 = .ok (.newarray .int, 2) := by decide +kernel
theorem dX12_init_285 : decode cX12_init 285 = .ok (.putfield 83, 3) := by decide +kernel
theorem dX12_init_288 : decode cX12_init 288 = .ok (.aload_n 0, 1) := by decide +kernel
theorem dX12_init_289 : decode cX12_init 289 = .ok (.bipush (-2), 2) := by decide +kernel
theorem dX12_init_291 : decode cX12_init 291 = .ok (.putfield 86, 3) := by decide +kernel
theorem dX12_init_294 : decode cX12_init 294 = .ok (.aload_n 0, 1) := by decide +kernel
theorem dX12_init_295 : decode cX12_init 295 = .ok (.bipush 12, 2) := by decide +kernel
theorem dX12_init_297 : decode cX12_init 297 = .ok (.newarray .int, 2) := by decide +kernel
theorem dX12_init_299 : decode cX12_init 299 = .ok (.putfield 89, 3) := by decide +kernel
theorem dX12_init_302 : decode cX12_init 302 = .ok (.aload_n 0, 1) := by decide +kernel
theorem dX12_init_303 : decode cX12_init 303 = .ok (.sipush 400, 3) := by decide +kernel
theorem dX12_init_306 : decode cX12_init 306 = .ok (.newarray .int, 2) := by decide +kernel
theorem dX12_init_308 : decode cX12_init 308 = .ok (.putfield 92, 3) := by decide +kernel
theorem dX12_init_311 : decode cX12_init 311 = .ok (.aload_n 0, 1) := by decide +kernel
theorem dX12_init_312 : decode cX12_init 312 = .ok (.sipush 1024, 3) := by decide +kernel
theorem dX12_init_315 : decode cX12_init 315 = .ok (.newarray .int, 2) := by decide +kernel
theorem dX12_init_317 : decode cX12_init 317 = .ok (.putfield 95, 3) := by decide +kernel
theorem dX12_init_320 : decode cX12_init 320 = .ok (.aload_n 0, 1) := by decide +kernel
theorem dX12_init_321 : decode cX12_init 321 = .ok (.bipush 8, 2) := by decide +kernel
theorem dX12_init_323 : decode cX12_init 323 = .ok (.newarray .int, 2) := by decide +kernel
theorem dX12_init_325 : decode cX12_init 325 = .ok (.putfield 98, 3) := by decide +kernel
theorem dX12_init_328 : decode cX12_init 328 = .ok (.aload_n 0, 1) := by decide +kernel
theorem dX12_init_329 : decode cX12_init 329 = .ok (.bipush 8, 2) := by decide +kernel
theorem dX12_init_331 : decode cX12_init 331 = .ok (.newarray .int, 2) := by decide +kernel
theorem dX12_init_333 : decode cX12_init 333 = .ok (.putfield 101, 3) := by decide +kernel
theorem dX12_init_336 : decode cX12_init 336 = .ok (.aload_n 0, 1) := by decide +kernel
theorem dX12_init_337 : decode cX12_init 337 = .ok (.bipush 8, 2) := by decide +kernel
theorem dX12_init_339 : decode cX12_init 339 = .ok (.newarray .int, 2) := by decide +kernel
theorem dX12_init_341 : decode cX12_init 341 = .ok (.putfield 104, 3) := by decide +kernel
theorem dX12_init_344 : decode cX12_init 344 = .ok (.aload_n 0, 1) := by decide +kernel
theorem dX12_init_345 : decode cX12_init 345 = .ok (.sipush 480, 3) := by decide +kernel
theorem dX12_init_348 : decode cX12_init 348 = .ok (.newarray .int, 2) := by decide +kernel
theorem dX12_init_350 : decode cX12_init 350 = .ok (.putfield 107, 3) := by decide +kernel
theorem dX12_init_353 : decode cX12_init 353 = .ok (.aload_n 0, 1) := by decide +kernel
theorem dX12_init_354 : decode cX12_init 354 = .ok (.bipush 60, 2) := by decide +kernel
theorem dX12_init_356 : decode cX12_init 356 = .ok (.newarray .int, 2) := by decide +kernel
theorem dX12_init_358 : decode cX12_init 358 = .ok (.putfield 110, 3) := by decide +kernel
theorem dX12_init_361 : decode cX12_init 361 = .ok (.return_, 1) := by decide +kernel
theorem dX12_thrown_0 : decode cX12_thrown 0 = .ok (.aload_n 0, 1) := by decide +kernel
theorem dX12_thrown_1 : decode cX12_thrown 1 = .ok (.getfield 113, 3) := by decide +kernel
theorem dX12_thrown_4 : decode cX12_thrown 4 = .ok (.ireturn, 1) := by decide +kernel
theorem dX12_isIn_0 : decode cX12_isIn 0 = .ok (.lload_n 0, 1) := by decide +kernel
theorem dX12_isIn_1 : decode cX12_isIn 1 = .ok (.lload_n 2, 1) := by decide +kernel
theorem dX12_isIn_2 : decode cX12_isIn 2 = .ok (.lcmp, 1) := by decide +kernel
theorem dX12_isIn_3 : decode cX12_isIn 3 = .ok (.ifCond .lt 14, 3) := by decide +kernel
theorem dX12_isIn_6 : decode cX12_isIn 6 = .ok (.lload_n 0, 1) := by decide +kernel
theorem dX12_isIn_7 : decode cX12_isIn 7 = .ok (.lload 4, 2) := by decide +kernel
theorem dX12_isIn_9 : decode cX12_isIn 9 = .ok (.lcmp, 1) := by decide +kernel
theorem dX12_isIn_10 : decode cX12_isIn 10 = .ok (.ifCond .gt 7, 3) := by decide +kernel
theorem dX12_isIn_13 : decode cX12_isIn 13 = .ok (.iconst 1, 1) := by decide +kernel
theorem dX12_isIn_14 : decode cX12_isIn 14 = .ok (.goto 4, 3) := by decide +kernel
theorem dX12_isIn_17 : decode cX12_isIn 17 = .ok (.iconst 0, 1) := by decide +kernel
theorem dX12_isIn_18 : decode cX12_isIn 18 = .ok (.ireturn, 1) := by decide +kernel
theorem dX12_time_0 : decode cX12_time 0 = .ok (.aload_n 0, 1) := by decide +kernel
theorem dX12_time_1 : decode cX12_time 1 = .ok (.iconst 0, 1) := by decide +kernel
theorem dX12_time_2 : decode cX12_time 2 = .ok (.putfield 113, 3) := by decide +kernel
theorem dX12_time_5 : decode cX12_time 5 = .ok (.iload_n 1, 1) := by decide +kernel
theorem dX12_time_6 : decode cX12_time 6 = .ok (.i2l, 1) := by decide +kernel
theorem dX12_time_7 : decode cX12_time 7 = .ok (.lconst 0, 1) := by decide +kernel
theorem dX12_time_8 : decode cX12_time 8 = .ok (.ldc2_w 116, 3) := by decide +kernel
theorem dX12_time_11 : decode cX12_time 11 = .ok (.invokestatic 118, 3) := by decide +kernel
theorem dX12_time_14 : decode cX12_time 14 = .ok (.ifCond .eq 15, 3) := by decide +kernel
theorem dX12_time_17 : decode cX12_time 17 = .ok (.iload_n 2, 1) := by decide +kernel
theorem dX12_time_18 : decode cX12_time 18 = .ok (.i2l, 1) := by decide +kernel
theorem dX12_time_19 : decode cX12_time 19 = .ok (.lconst 1, 1) := by decide +kernel
theorem dX12_time_20 : decode cX12_time 20 = .ok (.ldc2_w 122, 3) := by decide +kernel
theorem dX12_time_23 : decode cX12_time 23 = .ok (.invokestatic 118, 3) := by decide +kernel
theorem dX12_time_26 : decode cX12_time 26 = .ok (.ifCond .ne 5, 3) := by decide +kernel
theorem dX12_time_29 : decode cX12_time 29 = .ok (.iconst (-1), 1) := by decide +kernel
theorem dX12_time_30 : decode cX12_time 30 = .ok (.ireturn, 1) := by decide +kernel
theorem dX12_time_31 : decode cX12_time 31 = .ok (.aload_n 0, 1) := by decide +kernel
theorem dX12_time_32 : decode cX12_time 32 = .ok (.getfield 7, 3) := by decide +kernel
theorem dX12_time_35 : decode cX12_time 35 = .ok (.iload_n 1, 1) := by decide +kernel
theorem dX12_time_36 : decode cX12_time 36 = .ok (.iaload, 1) := by decide +kernel
theorem dX12_time_37 : decode cX12_time 37 = .ok (.istore_n 3, 1) := by decide +kernel
theorem dX12_time_38 : decode cX12_time 38 = .ok (.aload_n 0, 1) := by decide +kernel
theorem dX12_time_39 : decode cX12_time 39 = .ok (.getfield 7, 3) := by decide +kernel
theorem dX12_time_42 : decode cX12_time 42 = .ok (.iload_n 1, 1) := by decide +kernel
theorem dX12_time_43 : decode cX12_time 43 = .ok (.iload_n 2, 1) := by decide +kernel
theorem dX12_time_44 : decode cX12_time 44 = .ok (.iastore, 1) := by decide +kernel
theorem dX12_time_45 : decode cX12_time 45 = .ok (.iload_n 3, 1) := by decide +kernel
theorem dX12_time_46 : decode cX12_time 46 = .ok (.ireturn, 1) := by decide +kernel
theorem dX12_refresh_0 : decode cX12_refresh 0 = .ok (.aload_n 0, 1) := by decide +kernel
theorem dX12_refresh_1 : decode cX12_refresh 1 = .ok (.iconst 0, 1) := by decide +kernel
theorem dX12_refresh_2 : decode cX12_refresh 2 = .ok (.putfield 113, 3) := by decide +kernel
theorem dX12_refresh_5 : decode cX12_refresh 5 = .ok (.iload_n 1, 1) := by decide +kernel
theorem dX12_refresh_6 : decode cX12_refresh 6 = .ok (.ifCond .eq 17, 3) := by decide +kernel
theorem dX12_refresh_9 : decode cX12_refresh 9 = .ok (.iload_n 1, 1) := by decide +kernel
theorem dX12_refresh_10 : decode cX12_refresh 10 = .ok (.i2l, 1) := by decide +kernel
theorem dX12_refresh_11 : decode cX12_refresh 11 = .ok (.ldc2_w 124, 3) := by decide +kernel
theorem dX12_refresh_14 : decode cX12_refresh 14 = .ok (.ldc2_w 126, 3) := by decide +kernel
theorem dX12_refresh_17 : decode cX12_refresh 17 = .ok (.invokestatic 118, 3) := by decide +kernel
theorem dX12_refresh_20 : decode cX12_refresh 20 = .ok (.ifCond .eq 15, 3) := by decide +kernel
theorem dX12_refresh_23 : decode cX12_refresh 23 = .ok (.iload_n 2, 1) := by decide +kernel
theorem dX12_refresh_24 : decode cX12_refresh 24 = .ok (.i2l, 1) := by decide +kernel
theorem dX12_refresh_25 : decode cX12_refresh 25 = .ok (.lconst 1, 1) := by decide +kernel
theorem dX12_refresh_26 : decode cX12_refresh 26 = .ok (.ldc2_w 128, 3) := by decide +kernel
theorem dX12_refresh_29 : decode cX12_refresh 29 = .ok (.invokestatic 118, 3) := by decide +kernel
theorem dX12_refresh_32 : decode cX12_refresh 32 = .ok (.ifCond .ne 5, 3) := by decide +kernel
theorem dX12_refresh_35 : decode cX12_refresh 35 = .ok (.iconst (-1), 1) := by decide +kernel
theorem dX12_refresh_36 : decode cX12_refresh 36 = .ok (.ireturn, 1) := by decide +kernel
theorem dX12_refresh_37 : decode cX12_refresh 37 = .ok (.aload_n 0, 1) := by decide +kernel
theorem dX12_refresh_38 : decode cX12_refresh 38 = .ok (.iload_n 1, 1) := by decide +kernel
theorem dX12_refresh_39 : decode cX12_refresh 39 = .ok (.putfield 130, 3) := by decide +kernel
theorem dX12_refresh_42 : decode cX12_refresh 42 = .ok (.aload_n 0, 1) := by decide +kernel
theorem dX12_refresh_43 : decode cX12_refresh 43 = .ok (.iload_n 2, 1) := by decide +kernel
theorem dX12_refresh_44 : decode cX12_refresh 44 = .ok (.putfield 13, 3) := by decide +kernel
theorem dX12_refresh_47 : decode cX12_refresh 47 = .ok (.iconst 0, 1) := by decide +kernel
theorem dX12_refresh_48 : decode cX12_refresh 48 = .ok (.ireturn, 1) := by decide +kernel
theorem dX12_order_0 : decode cX12_order 0 = .ok (.aload_n 0, 1) := by decide +kernel
theorem dX12_order_1 : decode cX12_order 1 = .ok (.iconst 0, 1) := by decide +kernel
theorem dX12_order_2 : decode cX12_order 2 = .ok (.putfield 113, 3) := by decide +kernel
theorem dX12_order_5 : decode cX12_order 5 = .ok (.iload_n 1, 1) := by decide +kernel
theorem dX12_order_6 : decode cX12_order 6 = .ok (.i2l, 1) := by decide +kernel
theorem dX12_order_7 : decode cX12_order 7 = .ok (.lconst 0, 1) := by decide +kernel
theorem dX12_order_8 : decode cX12_order 8 = .ok (.ldc2_w 133, 3) := by decide +kernel
theorem dX12_order_11 : decode cX12_order 11 = .ok (.invokestatic 118, 3) := by decide +kernel
theorem dX12_order_14 : decode cX12_order 14 = .ok (.ifCond .eq 15, 3) := by decide +kernel
theorem dX12_order_17 : decode cX12_order 17 = .ok (.iload_n 2, 1) := by decide +kernel
theorem dX12_order_18 : decode cX12_order 18 = .ok (.i2l, 1) := by decide +kernel
theorem dX12_order_19 : decode cX12_order 19 = .ok (.lconst 1, 1) := by decide +kernel
theorem dX12_order_20 : decode cX12_order 20 = .ok (.ldc2_w 124, 3) := by decide +kernel
theorem dX12_order_23 : decode cX12_order 23 = .ok (.invokestatic 118, 3) := by decide +kernel
theorem dX12_order_26 : decode cX12_order 26 = .ok (.ifCond .ne 5, 3) := by decide +kernel
theorem dX12_order_29 : decode cX12_order 29 = .ok (.iconst (-1), 1) := by decide +kernel
theorem dX12_order_30 : decode cX12_order 30 = .ok (.ireturn, 1) := by decide +kernel
theorem dX12_order_31 : decode cX12_order 31 = .ok (.aload_n 0, 1) := by decide +kernel
theorem dX12_order_32 : decode cX12_order 32 = .ok (.iload_n 1, 1) := by decide +kernel
theorem dX12_order_33 : decode cX12_order 33 = .ok (.putfield 135, 3) := by decide +kernel
theorem dX12_order_36 : decode cX12_order 36 = .ok (.aload_n 0, 1) := by decide +kernel
theorem dX12_order_37 : decode cX12_order 37 = .ok (.iload_n 2, 1) := by decide +kernel
theorem dX12_order_38 : decode cX12_order 38 = .ok (.putfield 17, 3) := by decide +kernel
theorem dX12_order_41 : decode cX12_order 41 = .ok (.iconst 0, 1) := by decide +kernel
theorem dX12_order_42 : decode cX12_order 42 = .ok (.ireturn, 1) := by decide +kernel
theorem dX12_rowOf_0 : decode cX12_rowOf 0 = .ok (.iload_n 0, 1) := by decide +kernel
theorem dX12_rowOf_1 : decode cX12_rowOf 1 = .ok (.bipush 64, 2) := by decide +kernel
theorem dX12_rowOf_3 : decode cX12_rowOf 3 = .ok (.idiv, 1) := by decide +kernel
theorem dX12_rowOf_4 : decode cX12_rowOf 4 = .ok (.ireturn, 1) := by decide +kernel
theorem dX12_bankOf_0 : decode cX12_bankOf 0 = .ok (.iload_n 0, 1) := by decide +kernel
theorem dX12_bankOf_1 : decode cX12_bankOf 1 = .ok (.bipush 16, 2) := by decide +kernel
theorem dX12_bankOf_3 : decode cX12_bankOf 3 = .ok (.idiv, 1) := by decide +kernel
theorem dX12_bankOf_4 : decode cX12_bankOf 4 = .ok (.iconst 4, 1) := by decide +kernel
theorem dX12_bankOf_5 : decode cX12_bankOf 5 = .ok (.irem, 1) := by decide +kernel
theorem dX12_bankOf_6 : decode cX12_bankOf 6 = .ok (.iload_n 0, 1) := by decide +kernel
theorem dX12_bankOf_7 : decode cX12_bankOf 7 = .ok (.bipush 64, 2) := by decide +kernel
theorem dX12_bankOf_9 : decode cX12_bankOf 9 = .ok (.idiv, 1) := by decide +kernel
theorem dX12_bankOf_10 : decode cX12_bankOf 10 = .ok (.iconst 4, 1) := by decide +kernel
theorem dX12_bankOf_11 : decode cX12_bankOf 11 = .ok (.irem, 1) := by decide +kernel
theorem dX12_bankOf_12 : decode cX12_bankOf 12 = .ok (.ixor, 1) := by decide +kernel
theorem dX12_bankOf_13 : decode cX12_bankOf 13 = .ok (.ireturn, 1) := by decide +kernel
theorem dX12_added_0 : decode cX12_added 0 = .ok (.aload_n 0, 1) := by decide +kernel
theorem dX12_added_1 : decode cX12_added 1 = .ok (.getfield 138, 3) := by decide +kernel
theorem dX12_added_4 : decode cX12_added 4 = .ok (.bipush 12, 2) := by decide +kernel
theorem dX12_added_6 : decode cX12_added 6 = .ok (.if_icmp .eq 13, 3) := by decide +kernel
theorem dX12_added_9 : decode cX12_added 9 = .ok (.aload_n 0, 1) := by decide +kernel
theorem dX12_added_10 : decode cX12_added 10 = .ok (.getfield 141, 3) := by decide +kernel
theorem dX12_added_13 : decode cX12_added 13 = .ok (.sipush 400, 3) := by decide +kernel
theorem dX12_added_16 : decode cX12_added 16 = .ok (.if_icmp .ne 6, 3) := by decide +kernel
theorem dX12_added_19 : decode cX12_added 19 = .ok (.bipush (-2), 2) := by decide +kernel
theorem dX12_added_21 : decode cX12_added 21 = .ok (.ireturn, 1) := by decide +kernel
theorem dX12_added_22 : decode cX12_added 22 = .ok (.aload_n 0, 1) := by decide +kernel
theorem dX12_added_23 : decode cX12_added 23 = .ok (.getfield 29, 3) := by decide +kernel
theorem dX12_added_26 : decode cX12_added 26 = .ok (.aload_n 0, 1) := by decide +kernel
theorem dX12_added_27 : decode cX12_added 27 = .ok (.getfield 141, 3) := by decide +kernel
theorem dX12_added_30 : decode cX12_added 30 = .ok (.iload_n 1, 1) := by decide +kernel
theorem dX12_added_31 : decode cX12_added 31 = .ok (.iastore, 1) := by decide +kernel
theorem dX12_added_32 : decode cX12_added 32 = .ok (.aload_n 0, 1) := by decide +kernel
theorem dX12_added_33 : decode cX12_added 33 = .ok (.getfield 32, 3) := by decide +kernel
theorem dX12_added_36 : decode cX12_added 36 = .ok (.aload_n 0, 1) := by decide +kernel
theorem dX12_added_37 : decode cX12_added 37 = .ok (.getfield 141, 3) := by decide +kernel
theorem dX12_added_40 : decode cX12_added 40 = .ok (.iload_n 2, 1) := by decide +kernel
theorem dX12_added_41 : decode cX12_added 41 = .ok (.iastore, 1) := by decide +kernel
theorem dX12_added_42 : decode cX12_added 42 = .ok (.aload_n 0, 1) := by decide +kernel
theorem dX12_added_43 : decode cX12_added 43 = .ok (.getfield 35, 3) := by decide +kernel
theorem dX12_added_46 : decode cX12_added 46 = .ok (.aload_n 0, 1) := by decide +kernel
theorem dX12_added_47 : decode cX12_added 47 = .ok (.getfield 141, 3) := by decide +kernel
theorem dX12_added_50 : decode cX12_added 50 = .ok (.iload_n 3, 1) := by decide +kernel
theorem dX12_added_51 : decode cX12_added 51 = .ok (.iastore, 1) := by decide +kernel
theorem dX12_added_52 : decode cX12_added 52 = .ok (.aload_n 0, 1) := by decide +kernel
theorem dX12_added_53 : decode cX12_added 53 = .ok (.getfield 38, 3) := by decide +kernel
theorem dX12_added_56 : decode cX12_added 56 = .ok (.aload_n 0, 1) := by decide +kernel
theorem dX12_added_57 : decode cX12_added 57 = .ok (.getfield 141, 3) := by decide +kernel
theorem dX12_added_60 : decode cX12_added 60 = .ok (.iload 4, 2) := by decide +kernel
theorem dX12_added_62 : decode cX12_added 62 = .ok (.iastore, 1) := by decide +kernel
theorem dX12_added_63 : decode cX12_added 63 = .ok (.aload_n 0, 1) := by decide +kernel
theorem dX12_added_64 : decode cX12_added 64 = .ok (.getfield 41, 3) := by decide +kernel
theorem dX12_added_67 : decode cX12_added 67 = .ok (.aload_n 0, 1) := by decide +kernel
theorem dX12_added_68 : decode cX12_added 68 = .ok (.getfield 141, 3) := by decide +kernel
theorem dX12_added_71 : decode cX12_added 71 = .ok (.iload 5, 2) := by decide +kernel
theorem dX12_added_73 : decode cX12_added 73 = .ok (.iastore, 1) := by decide +kernel
theorem dX12_added_74 : decode cX12_added 74 = .ok (.aload_n 0, 1) := by decide +kernel
theorem dX12_added_75 : decode cX12_added 75 = .ok (.getfield 44, 3) := by decide +kernel
theorem dX12_added_78 : decode cX12_added 78 = .ok (.aload_n 0, 1) := by decide +kernel
theorem dX12_added_79 : decode cX12_added 79 = .ok (.getfield 141, 3) := by decide +kernel
theorem dX12_added_82 : decode cX12_added 82 = .ok (.aload_n 0, 1) := by decide +kernel
theorem dX12_added_83 : decode cX12_added 83 = .ok (.getfield 20, 3) := by decide +kernel
theorem dX12_added_86 : decode cX12_added 86 = .ok (.iastore, 1) := by decide +kernel
theorem dX12_added_87 : decode cX12_added 87 = .ok (.aload_n 0, 1) := by decide +kernel
theorem dX12_added_88 : decode cX12_added 88 = .ok (.getfield 47, 3) := by decide +kernel
theorem dX12_added_91 : decode cX12_added 91 = .ok (.aload_n 0, 1) := by decide +kernel
theorem dX12_added_92 : decode cX12_added 92 = .ok (.getfield 141, 3) := by decide +kernel
theorem dX12_added_95 : decode cX12_added 95 = .ok (.iconst 0, 1) := by decide +kernel
theorem dX12_added_96 : decode cX12_added 96 = .ok (.iastore, 1) := by decide +kernel
theorem dX12_added_97 : decode cX12_added 97 = .ok (.aload_n 0, 1) := by decide +kernel
theorem dX12_added_98 : decode cX12_added 98 = .ok (.getfield 50, 3) := by decide +kernel
theorem dX12_added_101 : decode cX12_added 101 = .ok (.aload_n 0, 1) := by decide +kernel
theorem dX12_added_102 : decode cX12_added 102 = .ok (.getfield 141, 3) := by decide +kernel
theorem dX12_added_105 : decode cX12_added 105 = .ok (.bipush (-2), 2) := by decide +kernel
theorem dX12_added_107 : decode cX12_added 107 = .ok (.iastore, 1) := by decide +kernel
theorem dX12_added_108 : decode cX12_added 108 = .ok (.aload_n 0, 1) := by decide +kernel
theorem dX12_added_109 : decode cX12_added 109 = .ok (.dup, 1) := by decide +kernel
theorem dX12_added_110 : decode cX12_added 110 = .ok (.getfield 141, 3) := by decide +kernel
theorem dX12_added_113 : decode cX12_added 113 = .ok (.iconst 1, 1) := by decide +kernel
theorem dX12_added_114 : decode cX12_added 114 = .ok (.iadd, 1) := by decide +kernel
theorem dX12_added_115 : decode cX12_added 115 = .ok (.putfield 141, 3) := by decide +kernel
theorem dX12_added_118 : decode cX12_added 118 = .ok (.aload_n 0, 1) := by decide +kernel
theorem dX12_added_119 : decode cX12_added 119 = .ok (.dup, 1) := by decide +kernel
theorem dX12_added_120 : decode cX12_added 120 = .ok (.getfield 138, 3) := by decide +kernel
theorem dX12_added_123 : decode cX12_added 123 = .ok (.iconst 1, 1) := by decide +kernel
theorem dX12_added_124 : decode cX12_added 124 = .ok (.iadd, 1) := by decide +kernel
theorem dX12_added_125 : decode cX12_added 125 = .ok (.putfield 138, 3) := by decide +kernel
theorem dX12_added_128 : decode cX12_added 128 = .ok (.aload_n 0, 1) := by decide +kernel
theorem dX12_added_129 : decode cX12_added 129 = .ok (.invokevirtual 144, 3) := by decide +kernel
theorem dX12_added_132 : decode cX12_added 132 = .ok (.aload_n 0, 1) := by decide +kernel
theorem dX12_added_133 : decode cX12_added 133 = .ok (.getfield 141, 3) := by decide +kernel
theorem dX12_added_136 : decode cX12_added 136 = .ok (.iconst 1, 1) := by decide +kernel
theorem dX12_added_137 : decode cX12_added 137 = .ok (.isub, 1) := by decide +kernel
theorem dX12_added_138 : decode cX12_added 138 = .ok (.ireturn, 1) := by decide +kernel
theorem dX12_findOldest_0 : decode cX12_findOldest 0 = .ok (.iconst (-1), 1) := by decide +kernel
theorem dX12_findOldest_1 : decode cX12_findOldest 1 = .ok (.istore_n 1, 1) := by decide +kernel
theorem dX12_findOldest_2 : decode cX12_findOldest 2 = .ok (.aload_n 0, 1) := by decide +kernel
theorem dX12_findOldest_3 : decode cX12_findOldest 3 = .ok (.getfield 141, 3) := by decide +kernel
theorem dX12_findOldest_6 : decode cX12_findOldest 6 = .ok (.iconst 1, 1) := by decide +kernel
theorem dX12_findOldest_7 : decode cX12_findOldest 7 = .ok (.isub, 1) := by decide +kernel
theorem dX12_findOldest_8 : decode cX12_findOldest 8 = .ok (.istore_n 2, 1) := by decide +kernel
theorem dX12_findOldest_9 : decode cX12_findOldest 9 = .ok (.iload_n 2, 1) := by decide +kernel
theorem dX12_findOldest_10 : decode cX12_findOldest 10 = .ok (.ifCond .lt 34, 3) := by decide +kernel
theorem dX12_findOldest_13 : decode cX12_findOldest 13 = .ok (.aload_n 0, 1) := by decide +kernel
theorem dX12_findOldest_14 : decode cX12_findOldest 14 = .ok (.getfield 47, 3) := by decide +kernel
theorem dX12_findOldest_17 : decode cX12_findOldest 17 = .ok (.iload_n 2, 1) := by decide +kernel
theorem dX12_findOldest_18 : decode cX12_findOldest 18 = .ok (.iaload, 1) := by decide +kernel
theorem dX12_findOldest_19 : decode cX12_findOldest 19 = .ok (.ifCond .ne 17, 3) := by decide +kernel
theorem dX12_findOldest_22 : decode cX12_findOldest 22 = .ok (.aload_n 0, 1) := by decide +kernel
theorem dX12_findOldest_23 : decode cX12_findOldest 23 = .ok (.getfield 29, 3) := by decide +kernel
theorem dX12_findOldest_26 : decode cX12_findOldest 26 = .ok (.iload_n 2, 1) := by decide +kernel
theorem dX12_findOldest_27 : decode cX12_findOldest 27 = .ok (.iaload, 1) := by decide +kernel
theorem dX12_findOldest_28 : decode cX12_findOldest 28 = .ok (.iconst 4, 1) := by decide +kernel
theorem dX12_findOldest_29 : decode cX12_findOldest 29 = .ok (.if_icmp .eq 7, 3) := by decide +kernel
theorem dX12_findOldest_32 : decode cX12_findOldest 32 = .ok (.iload_n 2, 1) := by decide +kernel
theorem dX12_findOldest_33 : decode cX12_findOldest 33 = .ok (.goto 4, 3) := by decide +kernel
theorem dX12_findOldest_36 : decode cX12_findOldest 36 = .ok (.iload_n 1, 1) := by decide +kernel
theorem dX12_findOldest_37 : decode cX12_findOldest 37 = .ok (.istore_n 1, 1) := by decide +kernel
theorem dX12_findOldest_38 : decode cX12_findOldest 38 = .ok (.iinc 2 (-1), 3) := by decide +kernel
theorem dX12_findOldest_41 : decode cX12_findOldest 41 = .ok (.goto (-32), 3) := by decide +kernel
theorem dX12_findOldest_44 : decode cX12_findOldest 44 = .ok (.aload_n 0, 1) := by decide +kernel
theorem dX12_findOldest_45 : decode cX12_findOldest 45 = .ok (.iload_n 1, 1) := by decide +kernel
theorem dX12_findOldest_46 : decode cX12_findOldest 46 = .ok (.aload_n 0, 1) := by decide +kernel
theorem dX12_findOldest_47 : decode cX12_findOldest 47 = .ok (.getfield 56, 3) := by decide +kernel
theorem dX12_findOldest_50 : decode cX12_findOldest 50 = .ok (.if_icmp .ne 10, 3) := by decide +kernel
theorem dX12_findOldest_53 : decode cX12_findOldest 53 = .ok (.aload_n 0, 1) := by decide +kernel
theorem dX12_findOldest_54 : decode cX12_findOldest 54 = .ok (.getfield 147, 3) := by decide +kernel
theorem dX12_findOldest_57 : decode cX12_findOldest 57 = .ok (.goto 4, 3) := by decide +kernel
theorem dX12_findOldest_60 : decode cX12_findOldest 60 = .ok (.iconst 0, 1) := by decide +kernel
theorem dX12_findOldest_61 : decode cX12_findOldest 61 = .ok (.putfield 147, 3) := by decide +kernel
theorem dX12_findOldest_64 : decode cX12_findOldest 64 = .ok (.aload_n 0, 1) := by decide +kernel
theorem dX12_findOldest_65 : decode cX12_findOldest 65 = .ok (.iload_n 1, 1) := by decide +kernel
theorem dX12_findOldest_66 : decode cX12_findOldest 66 = .ok (.putfield 56, 3) := by decide +kernel
theorem dX12_findOldest_69 : decode cX12_findOldest 69 = .ok (.return_, 1) := by decide +kernel
theorem dX12_isRight_0 : decode cX12_isRight 0 = .ok (.iload_n 0, 1) := by decide +kernel
theorem dX12_isRight_1 : decode cX12_isRight 1 = .ok (.i2l, 1) := by decide +kernel
theorem dX12_isRight_2 : decode cX12_isRight 2 = .ok (.lconst 0, 1) := by decide +kernel
theorem dX12_isRight_3 : decode cX12_isRight 3 = .ok (.ldc2_w 150, 3) := by decide +kernel
theorem dX12_isRight_6 : decode cX12_isRight 6 = .ok (.invokestatic 118, 3) := by decide +kernel
theorem dX12_isRight_9 : decode cX12_isRight 9 = .ok (.ifCond .eq 43, 3) := by decide +kernel
theorem dX12_isRight_12 : decode cX12_isRight 12 = .ok (.iload_n 1, 1) := by decide +kernel
theorem dX12_isRight_13 : decode cX12_isRight 13 = .ok (.i2l, 1) := by decide +kernel
theorem dX12_isRight_14 : decode cX12_isRight 14 = .ok (.lconst 0, 1) := by decide +kernel
theorem dX12_isRight_15 : decode cX12_isRight 15 = .ok (.ldc2_w 152, 3) := by decide +kernel
theorem dX12_isRight_18 : decode cX12_isRight 18 = .ok (.invokestatic 118, 3) := by decide +kernel
theorem dX12_isRight_21 : decode cX12_isRight 21 = .ok (.ifCond .eq 31, 3) := by decide +kernel
theorem dX12_isRight_24 : decode cX12_isRight 24 = .ok (.iload_n 2, 1) := by decide +kernel
theorem dX12_isRight_25 : decode cX12_isRight 25 = .ok (.i2l, 1) := by decide +kernel
theorem dX12_isRight_26 : decode cX12_isRight 26 = .ok (.lconst 0, 1) := by decide +kernel
theorem dX12_isRight_27 : decode cX12_isRight 27 = .ok (.ldc2_w 154, 3) := by decide +kernel
theorem dX12_isRight_30 : decode cX12_isRight 30 = .ok (.invokestatic 118, 3) := by decide +kernel
theorem dX12_isRight_33 : decode cX12_isRight 33 = .ok (.ifCond .eq 19, 3) := by decide +kernel
theorem dX12_isRight_36 : decode cX12_isRight 36 = .ok (.iload_n 3, 1) := by decide +kernel
theorem dX12_isRight_37 : decode cX12_isRight 37 = .ok (.i2l, 1) := by decide +kernel
theorem dX12_isRight_38 : decode cX12_isRight 38 = .ok (.lconst 0, 1) := by decide +kernel
theorem dX12_isRight_39 : decode cX12_isRight 39 = .ok (.ldc2_w 154, 3) := by decide +kernel
theorem dX12_isRight_42 : decode cX12_isRight 42 = .ok (.invokestatic 118, 3) := by decide +kernel
theorem dX12_isRight_45 : decode cX12_isRight 45 = .ok (.ifCond .eq 7, 3) := by decide +kernel
theorem dX12_isRight_48 : decode cX12_isRight 48 = .ok (.iconst 1, 1) := by decide +kernel
theorem dX12_isRight_49 : decode cX12_isRight 49 = .ok (.goto 4, 3) := by decide +kernel
theorem dX12_isRight_52 : decode cX12_isRight 52 = .ok (.iconst 0, 1) := by decide +kernel
theorem dX12_isRight_53 : decode cX12_isRight 53 = .ok (.ireturn, 1) := by decide +kernel
theorem dX12_ask_0 : decode cX12_ask 0 = .ok (.aload_n 0, 1) := by decide +kernel
theorem dX12_ask_1 : decode cX12_ask 1 = .ok (.iconst 0, 1) := by decide +kernel
theorem dX12_ask_2 : decode cX12_ask 2 = .ok (.putfield 113, 3) := by decide +kernel
theorem dX12_ask_5 : decode cX12_ask 5 = .ok (.iload_n 1, 1) := by decide +kernel
theorem dX12_ask_6 : decode cX12_ask 6 = .ok (.iload_n 2, 1) := by decide +kernel
theorem dX12_ask_7 : decode cX12_ask 7 = .ok (.iconst 0, 1) := by decide +kernel
theorem dX12_ask_8 : decode cX12_ask 8 = .ok (.iconst 0, 1) := by decide +kernel
theorem dX12_ask_9 : decode cX12_ask 9 = .ok (.invokestatic 156, 3) := by decide +kernel
theorem dX12_ask_12 : decode cX12_ask 12 = .ok (.ifCond .eq 15, 3) := by decide +kernel
theorem dX12_ask_15 : decode cX12_ask 15 = .ok (.aload_n 0, 1) := by decide +kernel
theorem dX12_ask_16 : decode cX12_ask 16 = .ok (.iconst 0, 1) := by decide +kernel
theorem dX12_ask_17 : decode cX12_ask 17 = .ok (.iload_n 1, 1) := by decide +kernel
theorem dX12_ask_18 : decode cX12_ask 18 = .ok (.iload_n 2, 1) := by decide +kernel
theorem dX12_ask_19 : decode cX12_ask 19 = .ok (.iconst 0, 1) := by decide +kernel
theorem dX12_ask_20 : decode cX12_ask 20 = .ok (.iconst 0, 1) := by decide +kernel
theorem dX12_ask_21 : decode cX12_ask 21 = .ok (.invokevirtual 160, 3) := by decide +kernel
theorem dX12_ask_24 : decode cX12_ask 24 = .ok (.goto 4, 3) := by decide +kernel
theorem dX12_ask_27 : decode cX12_ask 27 = .ok (.iconst (-1), 1) := by decide +kernel
theorem dX12_ask_28 : decode cX12_ask 28 = .ok (.ireturn, 1) := by decide +kernel
theorem dX12_write_0 : decode cX12_write 0 = .ok (.aload_n 0, 1) := by decide +kernel
theorem dX12_write_1 : decode cX12_write 1 = .ok (.iconst 0, 1) := by decide +kernel
theorem dX12_write_2 : decode cX12_write 2 = .ok (.putfield 113, 3) := by decide +kernel
theorem dX12_write_5 : decode cX12_write 5 = .ok (.iload_n 1, 1) := by decide +kernel
theorem dX12_write_6 : decode cX12_write 6 = .ok (.iload_n 2, 1) := by decide +kernel
theorem dX12_write_7 : decode cX12_write 7 = .ok (.iload_n 3, 1) := by decide +kernel
theorem dX12_write_8 : decode cX12_write 8 = .ok (.iconst 0, 1) := by decide +kernel
theorem dX12_write_9 : decode cX12_write 9 = .ok (.invokestatic 156, 3) := by decide +kernel
theorem dX12_write_12 : decode cX12_write 12 = .ok (.ifCond .eq 17, 3) := by decide +kernel
theorem dX12_write_15 : decode cX12_write 15 = .ok (.aload_n 0, 1) := by decide +kernel
theorem dX12_write_16 : decode cX12_write 16 = .ok (.iconst 1, 1) := by decide +kernel
theorem dX12_write_17 : decode cX12_write 17 = .ok (.iload_n 1, 1) := by decide +kernel
theorem dX12_write_18 : decode cX12_write 18 = .ok (.iload_n 2, 1) := by decide +kernel
theorem dX12_write_19 : decode cX12_write 19 = .ok (.iload_n 3, 1) := by decide +kernel
theorem dX12_write_20 : decode cX12_write 20 = .ok (.sipush 255, 3) := by decide +kernel
theorem dX12_write_23 : decode cX12_write 23 = .ok (.invokevirtual 160, 3) := by decide +kernel
theorem dX12_write_26 : decode cX12_write 26 = .ok (.goto 4, 3) := by decide +kernel
theorem dX12_write_29 : decode cX12_write 29 = .ok (.iconst (-1), 1) := by decide +kernel
theorem dX12_write_30 : decode cX12_write 30 = .ok (.ireturn, 1) := by decide +kernel
theorem dX12_mask_0 : decode cX12_mask 0 = .ok (.aload_n 0, 1) := by decide +kernel
theorem dX12_mask_1 : decode cX12_mask 1 = .ok (.iconst 0, 1) := by decide +kernel
theorem dX12_mask_2 : decode cX12_mask 2 = .ok (.putfield 113, 3) := by decide +kernel
theorem dX12_mask_5 : decode cX12_mask 5 = .ok (.iload_n 1, 1) := by decide +kernel
theorem dX12_mask_6 : decode cX12_mask 6 = .ok (.iload_n 2, 1) := by decide +kernel
theorem dX12_mask_7 : decode cX12_mask 7 = .ok (.iload_n 3, 1) := by decide +kernel
theorem dX12_mask_8 : decode cX12_mask 8 = .ok (.iload 4, 2) := by decide +kernel
theorem dX12_mask_10 : decode cX12_mask 10 = .ok (.invokestatic 156, 3) := by decide +kernel
theorem dX12_mask_13 : decode cX12_mask 13 = .ok (.ifCond .eq 16, 3) := by decide +kernel
theorem dX12_mask_16 : decode cX12_mask 16 = .ok (.aload_n 0, 1) := by decide +kernel
theorem dX12_mask_17 : decode cX12_mask 17 = .ok (.iconst 2, 1) := by decide +kernel
theorem dX12_mask_18 : decode cX12_mask 18 = .ok (.iload_n 1, 1) := by decide +kernel
theorem dX12_mask_19 : decode cX12_mask 19 = .ok (.iload_n 2, 1) := by decide +kernel
theorem dX12_mask_20 : decode cX12_mask 20 = .ok (.iload_n 3, 1) := by decide +kernel
theorem dX12_mask_21 : decode cX12_mask 21 = .ok (.iload 4, 2) := by decide +kernel
theorem dX12_mask_23 : decode cX12_mask 23 = .ok (.invokevirtual 160, 3) := by decide +kernel
theorem dX12_mask_26 : decode cX12_mask 26 = .ok (.goto 4, 3) := by decide +kernel
theorem dX12_mask_29 : decode cX12_mask 29 = .ok (.iconst (-1), 1) := by decide +kernel
theorem dX12_mask_30 : decode cX12_mask 30 = .ok (.ireturn, 1) := by decide +kernel
theorem dX12_swap_0 : decode cX12_swap 0 = .ok (.aload_n 0, 1) := by decide +kernel
theorem dX12_swap_1 : decode cX12_swap 1 = .ok (.iconst 0, 1) := by decide +kernel
theorem dX12_swap_2 : decode cX12_swap 2 = .ok (.putfield 113, 3) := by decide +kernel
theorem dX12_swap_5 : decode cX12_swap 5 = .ok (.iload_n 1, 1) := by decide +kernel
theorem dX12_swap_6 : decode cX12_swap 6 = .ok (.iload_n 2, 1) := by decide +kernel
theorem dX12_swap_7 : decode cX12_swap 7 = .ok (.iload_n 3, 1) := by decide +kernel
theorem dX12_swap_8 : decode cX12_swap 8 = .ok (.iconst 0, 1) := by decide +kernel
theorem dX12_swap_9 : decode cX12_swap 9 = .ok (.invokestatic 156, 3) := by decide +kernel
theorem dX12_swap_12 : decode cX12_swap 12 = .ok (.ifCond .eq 17, 3) := by decide +kernel
theorem dX12_swap_15 : decode cX12_swap 15 = .ok (.aload_n 0, 1) := by decide +kernel
theorem dX12_swap_16 : decode cX12_swap 16 = .ok (.iconst 3, 1) := by decide +kernel
theorem dX12_swap_17 : decode cX12_swap 17 = .ok (.iload_n 1, 1) := by decide +kernel
theorem dX12_swap_18 : decode cX12_swap 18 = .ok (.iload_n 2, 1) := by decide +kernel
theorem dX12_swap_19 : decode cX12_swap 19 = .ok (.iload_n 3, 1) := by decide +kernel
theorem dX12_swap_20 : decode cX12_swap 20 = .ok (.sipush 255, 3) := by decide +kernel
theorem dX12_swap_23 : decode cX12_swap 23 = .ok (.invokevirtual 160, 3) := by decide +kernel
theorem dX12_swap_26 : decode cX12_swap 26 = .ok (.goto 4, 3) := by decide +kernel
theorem dX12_swap_29 : decode cX12_swap 29 = .ok (.iconst (-1), 1) := by decide +kernel
theorem dX12_swap_30 : decode cX12_swap 30 = .ok (.ireturn, 1) := by decide +kernel
theorem dX12_fence_0 : decode cX12_fence 0 = .ok (.aload_n 0, 1) := by decide +kernel
theorem dX12_fence_1 : decode cX12_fence 1 = .ok (.iconst 0, 1) := by decide +kernel
theorem dX12_fence_2 : decode cX12_fence 2 = .ok (.putfield 113, 3) := by decide +kernel
theorem dX12_fence_5 : decode cX12_fence 5 = .ok (.iload_n 1, 1) := by decide +kernel
theorem dX12_fence_6 : decode cX12_fence 6 = .ok (.i2l, 1) := by decide +kernel
theorem dX12_fence_7 : decode cX12_fence 7 = .ok (.lconst 0, 1) := by decide +kernel
theorem dX12_fence_8 : decode cX12_fence 8 = .ok (.ldc2_w 150, 3) := by decide +kernel
theorem dX12_fence_11 : decode cX12_fence 11 = .ok (.invokestatic 118, 3) := by decide +kernel
theorem dX12_fence_14 : decode cX12_fence 14 = .ok (.ifCond .eq 16, 3) := by decide +kernel
theorem dX12_fence_17 : decode cX12_fence 17 = .ok (.aload_n 0, 1) := by decide +kernel
theorem dX12_fence_18 : decode cX12_fence 18 = .ok (.iconst 4, 1) := by decide +kernel
theorem dX12_fence_19 : decode cX12_fence 19 = .ok (.iload_n 1, 1) := by decide +kernel
theorem dX12_fence_20 : decode cX12_fence 20 = .ok (.bipush (-2), 2) := by decide +kernel
theorem dX12_fence_22 : decode cX12_fence 22 = .ok (.iconst 0, 1) := by decide +kernel
theorem dX12_fence_23 : decode cX12_fence 23 = .ok (.iconst 0, 1) := by decide +kernel
theorem dX12_fence_24 : decode cX12_fence 24 = .ok (.invokevirtual 160, 3) := by decide +kernel
theorem dX12_fence_27 : decode cX12_fence 27 = .ok (.goto 4, 3) := by decide +kernel
theorem dX12_fence_30 : decode cX12_fence 30 = .ok (.iconst (-1), 1) := by decide +kernel
theorem dX12_fence_31 : decode cX12_fence 31 = .ok (.ireturn, 1) := by decide +kernel
theorem dX12_waits_0 : decode cX12_waits 0 = .ok (.aload_n 0, 1) := by decide +kernel
theorem dX12_waits_1 : decode cX12_waits 1 = .ok (.getfield 47, 3) := by decide +kernel
theorem dX12_waits_4 : decode cX12_waits 4 = .ok (.iload_n 1, 1) := by decide +kernel
theorem dX12_waits_5 : decode cX12_waits 5 = .ok (.iaload, 1) := by decide +kernel
theorem dX12_waits_6 : decode cX12_waits 6 = .ok (.ifCond .ne 7, 3) := by decide +kernel
theorem dX12_waits_9 : decode cX12_waits 9 = .ok (.iconst 1, 1) := by decide +kernel
theorem dX12_waits_10 : decode cX12_waits 10 = .ok (.goto 4, 3) := by decide +kernel
theorem dX12_waits_13 : decode cX12_waits 13 = .ok (.iconst 0, 1) := by decide +kernel
theorem dX12_waits_14 : decode cX12_waits 14 = .ok (.ireturn, 1) := by decide +kernel
theorem dX12_isHeld_0 : decode cX12_isHeld 0 = .ok (.iconst 0, 1) := by decide +kernel
theorem dX12_isHeld_1 : decode cX12_isHeld 1 = .ok (.istore_n 2, 1) := by decide +kernel
theorem dX12_isHeld_2 : decode cX12_isHeld 2 = .ok (.iconst 0, 1) := by decide +kernel
theorem dX12_isHeld_3 : decode cX12_isHeld 3 = .ok (.istore_n 3, 1) := by decide +kernel
theorem dX12_isHeld_4 : decode cX12_isHeld 4 = .ok (.iload_n 3, 1) := by decide +kernel
theorem dX12_isHeld_5 : decode cX12_isHeld 5 = .ok (.iload_n 1, 1) := by decide +kernel
theorem dX12_isHeld_6 : decode cX12_isHeld 6 = .ok (.if_icmp .ge 137, 3) := by decide +kernel
theorem dX12_isHeld_9 : decode cX12_isHeld 9 = .ok (.aload_n 0, 1) := by decide +kernel
theorem dX12_isHeld_10 : decode cX12_isHeld 10 = .ok (.iload_n 1, 1) := by decide +kernel
theorem dX12_isHeld_11 : decode cX12_isHeld 11 = .ok (.invokevirtual 164, 3) := by decide +kernel
theorem dX12_isHeld_14 : decode cX12_isHeld 14 = .ok (.ifCond .eq 129, 3) := by decide +kernel
theorem dX12_isHeld_17 : decode cX12_isHeld 17 = .ok (.aload_n 0, 1) := by decide +kernel
theorem dX12_isHeld_18 : decode cX12_isHeld 18 = .ok (.getfield 29, 3) := by decide +kernel
theorem dX12_isHeld_21 : decode cX12_isHeld 21 = .ok (.iload_n 3, 1) := by decide +kernel
theorem dX12_isHeld_22 : decode cX12_isHeld 22 = .ok (.iaload, 1) := by decide +kernel
theorem dX12_isHeld_23 : decode cX12_isHeld 23 = .ok (.iconst 4, 1) := by decide +kernel
theorem dX12_isHeld_24 : decode cX12_isHeld 24 = .ok (.if_icmp .ne 22, 3) := by decide +kernel
theorem dX12_isHeld_27 : decode cX12_isHeld 27 = .ok (.aload_n 0, 1) := by decide +kernel
theorem dX12_isHeld_28 : decode cX12_isHeld 28 = .ok (.getfield 32, 3) := by decide +kernel
theorem dX12_isHeld_31 : decode cX12_isHeld 31 = .ok (.iload_n 3, 1) := by decide +kernel
theorem dX12_isHeld_32 : decode cX12_isHeld 32 = .ok (.iaload, 1) := by decide +kernel
theorem dX12_isHeld_33 : decode cX12_isHeld 33 = .ok (.aload_n 0, 1) := by decide +kernel
theorem dX12_isHeld_34 : decode cX12_isHeld 34 = .ok (.getfield 32, 3) := by decide +kernel
theorem dX12_isHeld_37 : decode cX12_isHeld 37 = .ok (.iload_n 1, 1) := by decide +kernel
theorem dX12_isHeld_38 : decode cX12_isHeld 38 = .ok (.iaload, 1) := by decide +kernel
theorem dX12_isHeld_39 : decode cX12_isHeld 39 = .ok (.if_icmp .ne 7, 3) := by decide +kernel
theorem dX12_isHeld_42 : decode cX12_isHeld 42 = .ok (.iconst 1, 1) := by decide +kernel
theorem dX12_isHeld_43 : decode cX12_isHeld 43 = .ok (.goto 4, 3) := by decide +kernel
theorem dX12_isHeld_46 : decode cX12_isHeld 46 = .ok (.iconst 0, 1) := by decide +kernel
theorem dX12_isHeld_47 : decode cX12_isHeld 47 = .ok (.istore 4, 2) := by decide +kernel
theorem dX12_isHeld_49 : decode cX12_isHeld 49 = .ok (.aload_n 0, 1) := by decide +kernel
theorem dX12_isHeld_50 : decode cX12_isHeld 50 = .ok (.getfield 29, 3) := by decide +kernel
theorem dX12_isHeld_53 : decode cX12_isHeld 53 = .ok (.iload_n 3, 1) := by decide +kernel
theorem dX12_isHeld_54 : decode cX12_isHeld 54 = .ok (.iaload, 1) := by decide +kernel
theorem dX12_isHeld_55 : decode cX12_isHeld 55 = .ok (.iconst 4, 1) := by decide +kernel
theorem dX12_isHeld_56 : decode cX12_isHeld 56 = .ok (.if_icmp .eq 50, 3) := by decide +kernel
theorem dX12_isHeld_59 : decode cX12_isHeld 59 = .ok (.aload_n 0, 1) := by decide +kernel
theorem dX12_isHeld_60 : decode cX12_isHeld 60 = .ok (.getfield 29, 3) := by decide +kernel
theorem dX12_isHeld_63 : decode cX12_isHeld 63 = .ok (.iload_n 1, 1) := by decide +kernel
theorem dX12_isHeld_64 : decode cX12_isHeld 64 = .ok (.iaload, 1) := by decide +kernel
theorem dX12_isHeld_65 : decode cX12_isHeld 65 = .ok (.iconst 4, 1) := by decide +kernel
theorem dX12_isHeld_66 : decode cX12_isHeld 66 = .ok (.if_icmp .eq 40, 3) := by decide +kernel
theorem dX12_isHeld_69 : decode cX12_isHeld 69 = .ok (.aload_n 0, 1) := by decide +kernel
theorem dX12_isHeld_70 : decode cX12_isHeld 70 = .ok (.getfield 35, 3) := by decide +kernel
theorem dX12_isHeld_73 : decode cX12_isHeld 73 = .ok (.iload_n 3, 1) := by decide +kernel
theorem dX12_isHeld_74 : decode cX12_isHeld 74 = .ok (.iaload, 1) := by decide +kernel
theorem dX12_isHeld_75 : decode cX12_isHeld 75 = .ok (.aload_n 0, 1) := by decide +kernel
theorem dX12_isHeld_76 : decode cX12_isHeld 76 = .ok (.getfield 35, 3) := by decide +kernel
theorem dX12_isHeld_79 : decode cX12_isHeld 79 = .ok (.iload_n 1, 1) := by decide +kernel
theorem dX12_isHeld_80 : decode cX12_isHeld 80 = .ok (.iaload, 1) := by decide +kernel
theorem dX12_isHeld_81 : decode cX12_isHeld 81 = .ok (.if_icmp .ne 25, 3) := by decide +kernel
theorem dX12_isHeld_84 : decode cX12_isHeld 84 = .ok (.aload_n 0, 1) := by decide +kernel
theorem dX12_isHeld_85 : decode cX12_isHeld 85 = .ok (.getfield 29, 3) := by decide +kernel
theorem dX12_isHeld_88 : decode cX12_isHeld 88 = .ok (.iload_n 3, 1) := by decide +kernel
theorem dX12_isHeld_89 : decode cX12_isHeld 89 = .ok (.iaload, 1) := by decide +kernel
theorem dX12_isHeld_90 : decode cX12_isHeld 90 = .ok (.ifCond .ne 12, 3) := by decide +kernel
theorem dX12_isHeld_93 : decode cX12_isHeld 93 = .ok (.aload_n 0, 1) := by decide +kernel
theorem dX12_isHeld_94 : decode cX12_isHeld 94 = .ok (.getfield 29, 3) := by decide +kernel
theorem dX12_isHeld_97 : decode cX12_isHeld 97 = .ok (.iload_n 1, 1) := by decide +kernel
theorem dX12_isHeld_98 : decode cX12_isHeld 98 = .ok (.iaload, 1) := by decide +kernel
theorem dX12_isHeld_99 : decode cX12_isHeld 99 = .ok (.ifCond .eq 7, 3) := by decide +kernel
theorem dX12_isHeld_102 : decode cX12_isHeld 102 = .ok (.iconst 1, 1) := by decide +kernel
theorem dX12_isHeld_103 : decode cX12_isHeld 103 = .ok (.goto 4, 3) := by decide +kernel
theorem dX12_isHeld_106 : decode cX12_isHeld 106 = .ok (.iconst 0, 1) := by decide +kernel
theorem dX12_isHeld_107 : decode cX12_isHeld 107 = .ok (.istore 5, 2) := by decide +kernel
theorem dX12_isHeld_109 : decode cX12_isHeld 109 = .ok (.iload_n 2, 1) := by decide +kernel
theorem dX12_isHeld_110 : decode cX12_isHeld 110 = .ok (.ifCond .ne 21, 3) := by decide +kernel
theorem dX12_isHeld_113 : decode cX12_isHeld 113 = .ok (.aload_n 0, 1) := by decide +kernel
theorem dX12_isHeld_114 : decode cX12_isHeld 114 = .ok (.iload_n 3, 1) := by decide +kernel
theorem dX12_isHeld_115 : decode cX12_isHeld 115 = .ok (.invokevirtual 164, 3) := by decide +kernel
theorem dX12_isHeld_118 : decode cX12_isHeld 118 = .ok (.ifCond .eq 17, 3) := by decide +kernel
theorem dX12_isHeld_121 : decode cX12_isHeld 121 = .ok (.iload 4, 2) := by decide +kernel
theorem dX12_isHeld_123 : decode cX12_isHeld 123 = .ok (.ifCond .ne 8, 3) := by decide +kernel
theorem dX12_isHeld_126 : decode cX12_isHeld 126 = .ok (.iload 5, 2) := by decide +kernel
theorem dX12_isHeld_128 : decode cX12_isHeld 128 = .ok (.ifCond .eq 7, 3) := by decide +kernel
theorem dX12_isHeld_131 : decode cX12_isHeld 131 = .ok (.iconst 1, 1) := by decide +kernel
theorem dX12_isHeld_132 : decode cX12_isHeld 132 = .ok (.goto 4, 3) := by decide +kernel
theorem dX12_isHeld_135 : decode cX12_isHeld 135 = .ok (.iconst 0, 1) := by decide +kernel
theorem dX12_isHeld_136 : decode cX12_isHeld 136 = .ok (.istore_n 2, 1) := by decide +kernel
theorem dX12_isHeld_137 : decode cX12_isHeld 137 = .ok (.iinc 3 1, 3) := by decide +kernel
theorem dX12_isHeld_140 : decode cX12_isHeld 140 = .ok (.goto (-136), 3) := by decide +kernel
theorem dX12_isHeld_143 : decode cX12_isHeld 143 = .ok (.iload_n 2, 1) := by decide +kernel
theorem dX12_isHeld_144 : decode cX12_isHeld 144 = .ok (.ireturn, 1) := by decide +kernel
theorem dX12_isOpen_0 : decode cX12_isOpen 0 = .ok (.aload_n 0, 1) := by decide +kernel
theorem dX12_isOpen_1 : decode cX12_isOpen 1 = .ok (.getfield 23, 3) := by decide +kernel
theorem dX12_isOpen_4 : decode cX12_isOpen 4 = .ok (.aload_n 0, 1) := by decide +kernel
theorem dX12_isOpen_5 : decode cX12_isOpen 5 = .ok (.getfield 35, 3) := by decide +kernel
theorem dX12_isOpen_8 : decode cX12_isOpen 8 = .ok (.iload_n 1, 1) := by decide +kernel
theorem dX12_isOpen_9 : decode cX12_isOpen 9 = .ok (.iaload, 1) := by decide +kernel
theorem dX12_isOpen_10 : decode cX12_isOpen 10 = .ok (.invokestatic 168, 3) := by decide +kernel
theorem dX12_isOpen_13 : decode cX12_isOpen 13 = .ok (.iaload, 1) := by decide +kernel
theorem dX12_isOpen_14 : decode cX12_isOpen 14 = .ok (.aload_n 0, 1) := by decide +kernel
theorem dX12_isOpen_15 : decode cX12_isOpen 15 = .ok (.getfield 35, 3) := by decide +kernel
theorem dX12_isOpen_18 : decode cX12_isOpen 18 = .ok (.iload_n 1, 1) := by decide +kernel
theorem dX12_isOpen_19 : decode cX12_isOpen 19 = .ok (.iaload, 1) := by decide +kernel
theorem dX12_isOpen_20 : decode cX12_isOpen 20 = .ok (.invokestatic 172, 3) := by decide +kernel
theorem dX12_isOpen_23 : decode cX12_isOpen 23 = .ok (.if_icmp .ne 7, 3) := by decide +kernel
theorem dX12_isOpen_26 : decode cX12_isOpen 26 = .ok (.iconst 1, 1) := by decide +kernel
theorem dX12_isOpen_27 : decode cX12_isOpen 27 = .ok (.goto 4, 3) := by decide +kernel
theorem dX12_isOpen_30 : decode cX12_isOpen 30 = .ok (.iconst 0, 1) := by decide +kernel
theorem dX12_isOpen_31 : decode cX12_isOpen 31 = .ok (.ireturn, 1) := by decide +kernel
theorem dX12_rank_0 : decode cX12_rank 0 = .ok (.aload_n 0, 1) := by decide +kernel
theorem dX12_rank_1 : decode cX12_rank 1 = .ok (.getfield 135, 3) := by decide +kernel
theorem dX12_rank_4 : decode cX12_rank 4 = .ok (.ifCond .eq 22, 3) := by decide +kernel
theorem dX12_rank_7 : decode cX12_rank 7 = .ok (.aload_n 0, 1) := by decide +kernel
theorem dX12_rank_8 : decode cX12_rank 8 = .ok (.getfield 135, 3) := by decide +kernel
theorem dX12_rank_11 : decode cX12_rank 11 = .ok (.iconst 1, 1) := by decide +kernel
theorem dX12_rank_12 : decode cX12_rank 12 = .ok (.if_icmp .ne 16, 3) := by decide +kernel
theorem dX12_rank_15 : decode cX12_rank 15 = .ok (.aload_n 0, 1) := by decide +kernel
theorem dX12_rank_16 : decode cX12_rank 16 = .ok (.getfield 147, 3) := by decide +kernel
theorem dX12_rank_19 : decode cX12_rank 19 = .ok (.aload_n 0, 1) := by decide +kernel
theorem dX12_rank_20 : decode cX12_rank 20 = .ok (.getfield 17, 3) := by decide +kernel
theorem dX12_rank_23 : decode cX12_rank 23 = .ok (.if_icmp .lt 5, 3) := by decide +kernel
theorem dX12_rank_26 : decode cX12_rank 26 = .ok (.iconst 0, 1) := by decide +kernel
theorem dX12_rank_27 : decode cX12_rank 27 = .ok (.ireturn, 1) := by decide +kernel
theorem dX12_rank_28 : decode cX12_rank 28 = .ok (.aload_n 0, 1) := by decide +kernel
theorem dX12_rank_29 : decode cX12_rank 29 = .ok (.getfield 135, 3) := by decide +kernel
theorem dX12_rank_32 : decode cX12_rank 32 = .ok (.iconst 1, 1) := by decide +kernel
theorem dX12_rank_33 : decode cX12_rank 33 = .ok (.if_icmp .ne 19, 3) := by decide +kernel
theorem dX12_rank_36 : decode cX12_rank 36 = .ok (.aload_n 0, 1) := by decide +kernel
theorem dX12_rank_37 : decode cX12_rank 37 = .ok (.iload_n 1, 1) := by decide +kernel
theorem dX12_rank_38 : decode cX12_rank 38 = .ok (.invokevirtual 175, 3) := by decide +kernel
theorem dX12_rank_41 : decode cX12_rank 41 = .ok (.ifCond .eq 7, 3) := by decide +kernel
theorem dX12_rank_44 : decode cX12_rank 44 = .ok (.iconst 0, 1) := by decide +kernel
theorem dX12_rank_45 : decode cX12_rank 45 = .ok (.goto 27, 3) := by decide +kernel
theorem dX12_rank_48 : decode cX12_rank 48 = .ok (.iconst 1, 1) := by decide +kernel
theorem dX12_rank_49 : decode cX12_rank 49 = .ok (.goto 23, 3) := by decide +kernel
theorem dX12_rank_52 : decode cX12_rank 52 = .ok (.iconst 4, 1) := by decide +kernel
theorem dX12_rank_53 : decode cX12_rank 53 = .ok (.aload_n 0, 1) := by decide +kernel
theorem dX12_rank_54 : decode cX12_rank 54 = .ok (.getfield 53, 3) := by decide +kernel
theorem dX12_rank_57 : decode cX12_rank 57 = .ok (.aload_n 0, 1) := by decide +kernel
theorem dX12_rank_58 : decode cX12_rank 58 = .ok (.getfield 32, 3) := by decide +kernel
theorem dX12_rank_61 : decode cX12_rank 61 = .ok (.iload_n 1, 1) := by decide +kernel
theorem dX12_rank_62 : decode cX12_rank 62 = .ok (.iaload, 1) := by decide +kernel
theorem dX12_rank_63 : decode cX12_rank 63 = .ok (.iaload, 1) := by decide +kernel
theorem dX12_rank_64 : decode cX12_rank 64 = .ok (.imul, 1) := by decide +kernel
theorem dX12_rank_65 : decode cX12_rank 65 = .ok (.aload_n 0, 1) := by decide +kernel
theorem dX12_rank_66 : decode cX12_rank 66 = .ok (.getfield 32, 3) := by decide +kernel
theorem dX12_rank_69 : decode cX12_rank 69 = .ok (.iload_n 1, 1) := by decide +kernel
theorem dX12_rank_70 : decode cX12_rank 70 = .ok (.iaload, 1) := by decide +kernel
theorem dX12_rank_71 : decode cX12_rank 71 = .ok (.iadd, 1) := by decide +kernel
theorem dX12_rank_72 : decode cX12_rank 72 = .ok (.ireturn, 1) := by decide +kernel
theorem dX12_findOrder_0 : decode cX12_findOrder 0 = .ok (.aload_n 0, 1) := by decide +kernel
theorem dX12_findOrder_1 : decode cX12_findOrder 1 = .ok (.iconst 0, 1) := by decide +kernel
theorem dX12_findOrder_2 : decode cX12_findOrder 2 = .ok (.putfield 178, 3) := by decide +kernel
theorem dX12_findOrder_5 : decode cX12_findOrder 5 = .ok (.iconst 0, 1) := by decide +kernel
theorem dX12_findOrder_6 : decode cX12_findOrder 6 = .ok (.istore_n 1, 1) := by decide +kernel
theorem dX12_findOrder_7 : decode cX12_findOrder 7 = .ok (.iload_n 1, 1) := by decide +kernel
theorem dX12_findOrder_8 : decode cX12_findOrder 8 = .ok (.aload_n 0, 1) := by decide +kernel
theorem dX12_findOrder_9 : decode cX12_findOrder 9 = .ok (.getfield 141, 3) := by decide +kernel
theorem dX12_findOrder_12 : decode cX12_findOrder 12 = .ok (.if_icmp .ge 96, 3) := by decide +kernel
theorem dX12_findOrder_15 : decode cX12_findOrder 15 = .ok (.aload_n 0, 1) := by decide +kernel
theorem dX12_findOrder_16 : decode cX12_findOrder 16 = .ok (.iload_n 1, 1) := by decide +kernel
theorem dX12_findOrder_17 : decode cX12_findOrder 17 = .ok (.invokevirtual 164, 3) := by decide +kernel
theorem dX12_findOrder_20 : decode cX12_findOrder 20 = .ok (.ifCond .eq 82, 3) := by decide +kernel
theorem dX12_findOrder_23 : decode cX12_findOrder 23 = .ok (.aload_n 0, 1) := by decide +kernel
theorem dX12_findOrder_24 : decode cX12_findOrder 24 = .ok (.getfield 29, 3) := by decide +kernel
theorem dX12_findOrder_27 : decode cX12_findOrder 27 = .ok (.iload_n 1, 1) := by decide +kernel
theorem dX12_findOrder_28 : decode cX12_findOrder 28 = .ok (.iaload, 1) := by decide +kernel
theorem dX12_findOrder_29 : decode cX12_findOrder 29 = .ok (.iconst 4, 1) := by decide +kernel
theorem dX12_findOrder_30 : decode cX12_findOrder 30 = .ok (.if_icmp .ne 6, 3) := by decide +kernel
theorem dX12_findOrder_33 : decode cX12_findOrder 33 = .ok (.goto 69, 3) := by decide +kernel
theorem dX12_findOrder_36 : decode cX12_findOrder 36 = .ok (.aload_n 0, 1) := by decide +kernel
theorem dX12_findOrder_37 : decode cX12_findOrder 37 = .ok (.getfield 178, 3) := by decide +kernel
theorem dX12_findOrder_40 : decode cX12_findOrder 40 = .ok (.istore_n 2, 1) := by decide +kernel
theorem dX12_findOrder_41 : decode cX12_findOrder 41 = .ok (.iload_n 2, 1) := by decide +kernel
theorem dX12_findOrder_42 : decode cX12_findOrder 42 = .ok (.ifCond .le 43, 3) := by decide +kernel
theorem dX12_findOrder_45 : decode cX12_findOrder 45 = .ok (.aload_n 0, 1) := by decide +kernel
theorem dX12_findOrder_46 : decode cX12_findOrder 46 = .ok (.aload_n 0, 1) := by decide +kernel
theorem dX12_findOrder_47 : decode cX12_findOrder 47 = .ok (.getfield 89, 3) := by decide +kernel
theorem dX12_findOrder_50 : decode cX12_findOrder 50 = .ok (.iload_n 2, 1) := by decide +kernel
theorem dX12_findOrder_51 : decode cX12_findOrder 51 = .ok (.iconst 1, 1) := by decide +kernel
theorem dX12_findOrder_52 : decode cX12_findOrder 52 = .ok (.isub, 1) := by decide +kernel
theorem dX12_findOrder_53 : decode cX12_findOrder 53 = .ok (.iaload, 1) := by decide +kernel
theorem dX12_findOrder_54 : decode cX12_findOrder 54 = .ok (.invokevirtual 181, 3) := by decide +kernel
theorem dX12_findOrder_57 : decode cX12_findOrder 57 = .ok (.aload_n 0, 1) := by decide +kernel
theorem dX12_findOrder_58 : decode cX12_findOrder 58 = .ok (.iload_n 1, 1) := by decide +kernel
theorem dX12_findOrder_59 : decode cX12_findOrder 59 = .ok (.invokevirtual 181, 3) := by decide +kernel
theorem dX12_findOrder_62 : decode cX12_findOrder 62 = .ok (.if_icmp .le 23, 3) := by decide +kernel
theorem dX12_findOrder_65 : decode cX12_findOrder 65 = .ok (.aload_n 0, 1) := by decide +kernel
theorem dX12_findOrder_66 : decode cX12_findOrder 66 = .ok (.getfield 89, 3) := by decide +kernel
theorem dX12_findOrder_69 : decode cX12_findOrder 69 = .ok (.iload_n 2, 1) := by decide +kernel
theorem dX12_findOrder_70 : decode cX12_findOrder 70 = .ok (.aload_n 0, 1) := by decide +kernel
theorem dX12_findOrder_71 : decode cX12_findOrder 71 = .ok (.getfield 89, 3) := by decide +kernel
theorem dX12_findOrder_74 : decode cX12_findOrder 74 = .ok (.iload_n 2, 1) := by decide +kernel
theorem dX12_findOrder_75 : decode cX12_findOrder 75 = .ok (.iconst 1, 1) := by decide +kernel
theorem dX12_findOrder_76 : decode cX12_findOrder 76 = .ok (.isub, 1) := by decide +kernel
theorem dX12_findOrder_77 : decode cX12_findOrder 77 = .ok (.iaload, 1) := by decide +kernel
theorem dX12_findOrder_78 : decode cX12_findOrder 78 = .ok (.iastore, 1) := by decide +kernel
theorem dX12_findOrder_79 : decode cX12_findOrder 79 = .ok (.iinc 2 (-1), 3) := by decide +kernel
theorem dX12_findOrder_82 : decode cX12_findOrder 82 = .ok (.goto (-41), 3) := by decide +kernel
theorem dX12_findOrder_85 : decode cX12_findOrder 85 = .ok (.aload_n 0, 1) := by decide +kernel
theorem dX12_findOrder_86 : decode cX12_findOrder 86 = .ok (.getfield 89, 3) := by decide +kernel
theorem dX12_findOrder_89 : decode cX12_findOrder 89 = .ok (.iload_n 2, 1) := by decide +kernel
theorem dX12_findOrder_90 : decode cX12_findOrder 90 = .ok (.iload_n 1, 1) := by decide +kernel
theorem dX12_findOrder_91 : decode cX12_findOrder 91 = .ok (.iastore, 1) := by decide +kernel
theorem dX12_findOrder_92 : decode cX12_findOrder 92 = .ok (.aload_n 0, 1) := by decide +kernel
theorem dX12_findOrder_93 : decode cX12_findOrder 93 = .ok (.dup, 1) := by decide +kernel
theorem dX12_findOrder_94 : decode cX12_findOrder 94 = .ok (.getfield 178, 3) := by decide +kernel
theorem dX12_findOrder_97 : decode cX12_findOrder 97 = .ok (.iconst 1, 1) := by decide +kernel
theorem dX12_findOrder_98 : decode cX12_findOrder 98 = .ok (.iadd, 1) := by decide +kernel
theorem dX12_findOrder_99 : decode cX12_findOrder 99 = .ok (.putfield 178, 3) := by decide +kernel
theorem dX12_findOrder_102 : decode cX12_findOrder 102 = .ok (.iinc 1 1, 3) := by decide +kernel
theorem dX12_findOrder_105 : decode cX12_findOrder 105 = .ok (.goto (-98), 3) := by decide +kernel
theorem dX12_findOrder_108 : decode cX12_findOrder 108 = .ok (.return_, 1) := by decide +kernel
theorem dX12_asked_0 : decode cX12_asked 0 = .ok (.iload_n 3, 1) := by decide +kernel
theorem dX12_asked_1 : decode cX12_asked 1 = .ok (.iload 5, 2) := by decide +kernel
theorem dX12_asked_3 : decode cX12_asked 3 = .ok (.if_icmp .ne 7, 3) := by decide +kernel
theorem dX12_asked_6 : decode cX12_asked 6 = .ok (.iconst 1, 1) := by decide +kernel
theorem dX12_asked_7 : decode cX12_asked 7 = .ok (.goto 4, 3) := by decide +kernel
theorem dX12_asked_10 : decode cX12_asked 10 = .ok (.iconst 0, 1) := by decide +kernel
theorem dX12_asked_11 : decode cX12_asked 11 = .ok (.istore 6, 2) := by decide +kernel
theorem dX12_asked_13 : decode cX12_asked 13 = .ok (.iload_n 3, 1) := by decide +kernel
theorem dX12_asked_14 : decode cX12_asked 14 = .ok (.iconst 2, 1) := by decide +kernel
theorem dX12_asked_15 : decode cX12_asked 15 = .ok (.idiv, 1) := by decide +kernel
theorem dX12_asked_16 : decode cX12_asked 16 = .ok (.iload 5, 2) := by decide +kernel
theorem dX12_asked_18 : decode cX12_asked 18 = .ok (.iconst 2, 1) := by decide +kernel
theorem dX12_asked_19 : decode cX12_asked 19 = .ok (.idiv, 1) := by decide +kernel
theorem dX12_asked_20 : decode cX12_asked 20 = .ok (.if_icmp .ne 7, 3) := by decide +kernel
theorem dX12_asked_23 : decode cX12_asked 23 = .ok (.iconst 1, 1) := by decide +kernel
theorem dX12_asked_24 : decode cX12_asked 24 = .ok (.goto 4, 3) := by decide +kernel
theorem dX12_asked_27 : decode cX12_asked 27 = .ok (.iconst 0, 1) := by decide +kernel
theorem dX12_asked_28 : decode cX12_asked 28 = .ok (.istore 7, 2) := by decide +kernel
theorem dX12_asked_30 : decode cX12_asked 30 = .ok (.iload 4, 2) := by decide +kernel
theorem dX12_asked_32 : decode cX12_asked 32 = .ok (.iconst 2, 1) := by decide +kernel
theorem dX12_asked_33 : decode cX12_asked 33 = .ok (.if_icmp .eq 9, 3) := by decide +kernel
theorem dX12_asked_36 : decode cX12_asked 36 = .ok (.iload 4, 2) := by decide +kernel
theorem dX12_asked_38 : decode cX12_asked 38 = .ok (.iconst 3, 1) := by decide +kernel
theorem dX12_asked_39 : decode cX12_asked 39 = .ok (.if_icmp .ne 7, 3) := by decide +kernel
theorem dX12_asked_42 : decode cX12_asked 42 = .ok (.iconst 1, 1) := by decide +kernel
theorem dX12_asked_43 : decode cX12_asked 43 = .ok (.goto 4, 3) := by decide +kernel
theorem dX12_asked_46 : decode cX12_asked 46 = .ok (.iconst 0, 1) := by decide +kernel
theorem dX12_asked_47 : decode cX12_asked 47 = .ok (.istore 8, 2) := by decide +kernel
theorem dX12_asked_49 : decode cX12_asked 49 = .ok (.iload_n 2, 1) := by decide +kernel
theorem dX12_asked_50 : decode cX12_asked 50 = .ok (.iconst 2, 1) := by decide +kernel
theorem dX12_asked_51 : decode cX12_asked 51 = .ok (.if_icmp .eq 8, 3) := by decide +kernel
theorem dX12_asked_54 : decode cX12_asked 54 = .ok (.iload_n 2, 1) := by decide +kernel
theorem dX12_asked_55 : decode cX12_asked 55 = .ok (.iconst 3, 1) := by decide +kernel
theorem dX12_asked_56 : decode cX12_asked 56 = .ok (.if_icmp .ne 7, 3) := by decide +kernel
theorem dX12_asked_59 : decode cX12_asked 59 = .ok (.iconst 1, 1) := by decide +kernel
theorem dX12_asked_60 : decode cX12_asked 60 = .ok (.goto 4, 3) := by decide +kernel
theorem dX12_asked_63 : decode cX12_asked 63 = .ok (.iconst 0, 1) := by decide +kernel
theorem dX12_asked_64 : decode cX12_asked 64 = .ok (.istore 9, 2) := by decide +kernel
theorem dX12_asked_66 : decode cX12_asked 66 = .ok (.iload_n 1, 1) := by decide +kernel
theorem dX12_asked_67 : decode cX12_asked 67 = .ok (.tableswitch 318 0 11 #[61, 85, 110, 135, 161, 187, 212, 237, 258, 279, 318, 303], 61) := by decide +kernel
theorem dX12_asked_128 : decode cX12_asked 128 = .ok (.iload 8, 2) := by decide +kernel
theorem dX12_asked_130 : decode cX12_asked 130 = .ok (.ifCond .eq 16, 3) := by decide +kernel
theorem dX12_asked_133 : decode cX12_asked 133 = .ok (.iload_n 2, 1) := by decide +kernel
theorem dX12_asked_134 : decode cX12_asked 134 = .ok (.ifCond .ne 12, 3) := by decide +kernel
theorem dX12_asked_137 : decode cX12_asked 137 = .ok (.iload 6, 2) := by decide +kernel
theorem dX12_asked_139 : decode cX12_asked 139 = .ok (.ifCond .eq 7, 3) := by decide +kernel
theorem dX12_asked_142 : decode cX12_asked 142 = .ok (.iconst 1, 1) := by decide +kernel
theorem dX12_asked_143 : decode cX12_asked 143 = .ok (.goto 4, 3) := by decide +kernel
theorem dX12_asked_146 : decode cX12_asked 146 = .ok (.iconst 0, 1) := by decide +kernel
theorem dX12_asked_147 : decode cX12_asked 147 = .ok (.istore 10, 2) := by decide +kernel
theorem dX12_asked_149 : decode cX12_asked 149 = .ok (.goto 260, 3) := by decide +kernel
theorem dX12_asked_152 : decode cX12_asked 152 = .ok (.iload 4, 2) := by decide +kernel
theorem dX12_asked_154 : decode cX12_asked 154 = .ok (.iconst 1, 1) := by decide +kernel
theorem dX12_asked_155 : decode cX12_asked 155 = .ok (.if_icmp .ne 16, 3) := by decide +kernel
theorem dX12_asked_158 : decode cX12_asked 158 = .ok (.iload_n 2, 1) := by decide +kernel
theorem dX12_asked_159 : decode cX12_asked 159 = .ok (.ifCond .ne 12, 3) := by decide +kernel
theorem dX12_asked_162 : decode cX12_asked 162 = .ok (.iload 6, 2) := by decide +kernel
theorem dX12_asked_164 : decode cX12_asked 164 = .ok (.ifCond .eq 7, 3) := by decide +kernel
theorem dX12_asked_167 : decode cX12_asked 167 = .ok (.iconst 1, 1) := by decide +kernel
theorem dX12_asked_168 : decode cX12_asked 168 = .ok (.goto 4, 3) := by decide +kernel
theorem dX12_asked_171 : decode cX12_asked 171 = .ok (.iconst 0, 1) := by decide +kernel
theorem dX12_asked_172 : decode cX12_asked 172 = .ok (.istore 10, 2) := by decide +kernel
theorem dX12_asked_174 : decode cX12_asked 174 = .ok (.goto 235, 3) := by decide +kernel
theorem dX12_asked_177 : decode cX12_asked 177 = .ok (.iload 4, 2) := by decide +kernel
theorem dX12_asked_179 : decode cX12_asked 179 = .ok (.ifCond .ne 17, 3) := by decide +kernel
theorem dX12_asked_182 : decode cX12_asked 182 = .ok (.iload_n 2, 1) := by decide +kernel
theorem dX12_asked_183 : decode cX12_asked 183 = .ok (.iconst 1, 1) := by decide +kernel
theorem dX12_asked_184 : decode cX12_asked 184 = .ok (.if_icmp .ne 12, 3) := by decide +kernel
theorem dX12_asked_187 : decode cX12_asked 187 = .ok (.iload 6, 2) := by decide +kernel
theorem dX12_asked_189 : decode cX12_asked 189 = .ok (.ifCond .eq 7, 3) := by decide +kernel
theorem dX12_asked_192 : decode cX12_asked 192 = .ok (.iconst 1, 1) := by decide +kernel
theorem dX12_asked_193 : decode cX12_asked 193 = .ok (.goto 4, 3) := by decide +kernel
theorem dX12_asked_196 : decode cX12_asked 196 = .ok (.iconst 0, 1) := by decide +kernel
theorem dX12_asked_197 : decode cX12_asked 197 = .ok (.istore 10, 2) := by decide +kernel
theorem dX12_asked_199 : decode cX12_asked 199 = .ok (.goto 210, 3) := by decide +kernel
theorem dX12_asked_202 : decode cX12_asked 202 = .ok (.iload 4, 2) := by decide +kernel
theorem dX12_asked_204 : decode cX12_asked 204 = .ok (.iconst 1, 1) := by decide +kernel
theorem dX12_asked_205 : decode cX12_asked 205 = .ok (.if_icmp .ne 17, 3) := by decide +kernel
theorem dX12_asked_208 : decode cX12_asked 208 = .ok (.iload_n 2, 1) := by decide +kernel
theorem dX12_asked_209 : decode cX12_asked 209 = .ok (.iconst 2, 1) := by decide +kernel
theorem dX12_asked_210 : decode cX12_asked 210 = .ok (.if_icmp .ne 12, 3) := by decide +kernel
theorem dX12_asked_213 : decode cX12_asked 213 = .ok (.iload 6, 2) := by decide +kernel
theorem dX12_asked_215 : decode cX12_asked 215 = .ok (.ifCond .eq 7, 3) := by decide +kernel
theorem dX12_asked_218 : decode cX12_asked 218 = .ok (.iconst 1, 1) := by decide +kernel
theorem dX12_asked_219 : decode cX12_asked 219 = .ok (.goto 4, 3) := by decide +kernel
theorem dX12_asked_222 : decode cX12_asked 222 = .ok (.iconst 0, 1) := by decide +kernel
theorem dX12_asked_223 : decode cX12_asked 223 = .ok (.istore 10, 2) := by decide +kernel
theorem dX12_asked_225 : decode cX12_asked 225 = .ok (.goto 184, 3) := by decide +kernel
theorem dX12_asked_228 : decode cX12_asked 228 = .ok (.iload 4, 2) := by decide +kernel
theorem dX12_asked_230 : decode cX12_asked 230 = .ok (.iconst 1, 1) := by decide +kernel
theorem dX12_asked_231 : decode cX12_asked 231 = .ok (.if_icmp .ne 17, 3) := by decide +kernel
theorem dX12_asked_234 : decode cX12_asked 234 = .ok (.iload_n 2, 1) := by decide +kernel
theorem dX12_asked_235 : decode cX12_asked 235 = .ok (.iconst 3, 1) := by decide +kernel
theorem dX12_asked_236 : decode cX12_asked 236 = .ok (.if_icmp .ne 12, 3) := by decide +kernel
theorem dX12_asked_239 : decode cX12_asked 239 = .ok (.iload 6, 2) := by decide +kernel
theorem dX12_asked_241 : decode cX12_asked 241 = .ok (.ifCond .eq 7, 3) := by decide +kernel
theorem dX12_asked_244 : decode cX12_asked 244 = .ok (.iconst 1, 1) := by decide +kernel
theorem dX12_asked_245 : decode cX12_asked 245 = .ok (.goto 4, 3) := by decide +kernel
theorem dX12_asked_248 : decode cX12_asked 248 = .ok (.iconst 0, 1) := by decide +kernel
theorem dX12_asked_249 : decode cX12_asked 249 = .ok (.istore 10, 2) := by decide +kernel
theorem dX12_asked_251 : decode cX12_asked 251 = .ok (.goto 158, 3) := by decide +kernel
theorem dX12_asked_254 : decode cX12_asked 254 = .ok (.iload 8, 2) := by decide +kernel
theorem dX12_asked_256 : decode cX12_asked 256 = .ok (.ifCond .eq 17, 3) := by decide +kernel
theorem dX12_asked_259 : decode cX12_asked 259 = .ok (.iload 9, 2) := by decide +kernel
theorem dX12_asked_261 : decode cX12_asked 261 = .ok (.ifCond .eq 12, 3) := by decide +kernel
theorem dX12_asked_264 : decode cX12_asked 264 = .ok (.iload 7, 2) := by decide +kernel
theorem dX12_asked_266 : decode cX12_asked 266 = .ok (.ifCond .eq 7, 3) := by decide +kernel
theorem dX12_asked_269 : decode cX12_asked 269 = .ok (.iconst 1, 1) := by decide +kernel
theorem dX12_asked_270 : decode cX12_asked 270 = .ok (.goto 4, 3) := by decide +kernel
theorem dX12_asked_273 : decode cX12_asked 273 = .ok (.iconst 0, 1) := by decide +kernel
theorem dX12_asked_274 : decode cX12_asked 274 = .ok (.istore 10, 2) := by decide +kernel
theorem dX12_asked_276 : decode cX12_asked 276 = .ok (.goto 133, 3) := by decide +kernel
theorem dX12_asked_279 : decode cX12_asked 279 = .ok (.iload 8, 2) := by decide +kernel
theorem dX12_asked_281 : decode cX12_asked 281 = .ok (.ifCond .eq 17, 3) := by decide +kernel
theorem dX12_asked_284 : decode cX12_asked 284 = .ok (.iload 9, 2) := by decide +kernel
theorem dX12_asked_286 : decode cX12_asked 286 = .ok (.ifCond .eq 12, 3) := by decide +kernel
theorem dX12_asked_289 : decode cX12_asked 289 = .ok (.iload 7, 2) := by decide +kernel
theorem dX12_asked_291 : decode cX12_asked 291 = .ok (.ifCond .ne 7, 3) := by decide +kernel
theorem dX12_asked_294 : decode cX12_asked 294 = .ok (.iconst 1, 1) := by decide +kernel
theorem dX12_asked_295 : decode cX12_asked 295 = .ok (.goto 4, 3) := by decide +kernel
theorem dX12_asked_298 : decode cX12_asked 298 = .ok (.iconst 0, 1) := by decide +kernel
theorem dX12_asked_299 : decode cX12_asked 299 = .ok (.istore 10, 2) := by decide +kernel
theorem dX12_asked_301 : decode cX12_asked 301 = .ok (.goto 108, 3) := by decide +kernel
theorem dX12_asked_304 : decode cX12_asked 304 = .ok (.iload 4, 2) := by decide +kernel
theorem dX12_asked_306 : decode cX12_asked 306 = .ok (.iconst 3, 1) := by decide +kernel
theorem dX12_asked_307 : decode cX12_asked 307 = .ok (.if_icmp .ne 12, 3) := by decide +kernel
theorem dX12_asked_310 : decode cX12_asked 310 = .ok (.iload_n 2, 1) := by decide +kernel
theorem dX12_asked_311 : decode cX12_asked 311 = .ok (.iconst 2, 1) := by decide +kernel
theorem dX12_asked_312 : decode cX12_asked 312 = .ok (.if_icmp .ne 7, 3) := by decide +kernel
theorem dX12_asked_315 : decode cX12_asked 315 = .ok (.iconst 1, 1) := by decide +kernel
theorem dX12_asked_316 : decode cX12_asked 316 = .ok (.goto 4, 3) := by decide +kernel
theorem dX12_asked_319 : decode cX12_asked 319 = .ok (.iconst 0, 1) := by decide +kernel
theorem dX12_asked_320 : decode cX12_asked 320 = .ok (.istore 10, 2) := by decide +kernel
theorem dX12_asked_322 : decode cX12_asked 322 = .ok (.goto 87, 3) := by decide +kernel
theorem dX12_asked_325 : decode cX12_asked 325 = .ok (.iload 4, 2) := by decide +kernel
theorem dX12_asked_327 : decode cX12_asked 327 = .ok (.iconst 2, 1) := by decide +kernel
theorem dX12_asked_328 : decode cX12_asked 328 = .ok (.if_icmp .ne 12, 3) := by decide +kernel
theorem dX12_asked_331 : decode cX12_asked 331 = .ok (.iload_n 2, 1) := by decide +kernel
theorem dX12_asked_332 : decode cX12_asked 332 = .ok (.iconst 3, 1) := by decide +kernel
theorem dX12_asked_333 : decode cX12_asked 333 = .ok (.if_icmp .ne 7, 3) := by decide +kernel
theorem dX12_asked_336 : decode cX12_asked 336 = .ok (.iconst 1, 1) := by decide +kernel
theorem dX12_asked_337 : decode cX12_asked 337 = .ok (.goto 4, 3) := by decide +kernel
theorem dX12_asked_340 : decode cX12_asked 340 = .ok (.iconst 0, 1) := by decide +kernel
theorem dX12_asked_341 : decode cX12_asked 341 = .ok (.istore 10, 2) := by decide +kernel
theorem dX12_asked_343 : decode cX12_asked 343 = .ok (.goto 66, 3) := by decide +kernel
theorem dX12_asked_346 : decode cX12_asked 346 = .ok (.iload 4, 2) := by decide +kernel
theorem dX12_asked_348 : decode cX12_asked 348 = .ok (.ifCond .ne 16, 3) := by decide +kernel
theorem dX12_asked_351 : decode cX12_asked 351 = .ok (.iload_n 2, 1) := by decide +kernel
theorem dX12_asked_352 : decode cX12_asked 352 = .ok (.ifCond .ne 12, 3) := by decide +kernel
theorem dX12_asked_355 : decode cX12_asked 355 = .ok (.iload 6, 2) := by decide +kernel
theorem dX12_asked_357 : decode cX12_asked 357 = .ok (.ifCond .ne 7, 3) := by decide +kernel
theorem dX12_asked_360 : decode cX12_asked 360 = .ok (.iconst 1, 1) := by decide +kernel
theorem dX12_asked_361 : decode cX12_asked 361 = .ok (.goto 4, 3) := by decide +kernel
theorem dX12_asked_364 : decode cX12_asked 364 = .ok (.iconst 0, 1) := by decide +kernel
theorem dX12_asked_365 : decode cX12_asked 365 = .ok (.istore 10, 2) := by decide +kernel
theorem dX12_asked_367 : decode cX12_asked 367 = .ok (.goto 42, 3) := by decide +kernel
theorem dX12_asked_370 : decode cX12_asked 370 = .ok (.iload_n 2, 1) := by decide +kernel
theorem dX12_asked_371 : decode cX12_asked 371 = .ok (.iconst 4, 1) := by decide +kernel
theorem dX12_asked_372 : decode cX12_asked 372 = .ok (.if_icmp .ne 7, 3) := by decide +kernel
theorem dX12_asked_375 : decode cX12_asked 375 = .ok (.iconst 1, 1) := by decide +kernel
theorem dX12_asked_376 : decode cX12_asked 376 = .ok (.goto 4, 3) := by decide +kernel
theorem dX12_asked_379 : decode cX12_asked 379 = .ok (.iconst 0, 1) := by decide +kernel
theorem dX12_asked_380 : decode cX12_asked 380 = .ok (.istore 10, 2) := by decide +kernel
theorem dX12_asked_382 : decode cX12_asked 382 = .ok (.goto 27, 3) := by decide +kernel
theorem dX12_asked_385 : decode cX12_asked 385 = .ok (.iload_n 1, 1) := by decide +kernel
theorem dX12_asked_386 : decode cX12_asked 386 = .ok (.bipush 12, 2) := by decide +kernel
theorem dX12_asked_388 : decode cX12_asked 388 = .ok (.if_icmp .ne 18, 3) := by decide +kernel
theorem dX12_asked_391 : decode cX12_asked 391 = .ok (.iload 4, 2) := by decide +kernel
theorem dX12_asked_393 : decode cX12_asked 393 = .ok (.iconst 4, 1) := by decide +kernel
theorem dX12_asked_394 : decode cX12_asked 394 = .ok (.if_icmp .ne 12, 3) := by decide +kernel
theorem dX12_asked_397 : decode cX12_asked 397 = .ok (.iload_n 2, 1) := by decide +kernel
theorem dX12_asked_398 : decode cX12_asked 398 = .ok (.iconst 1, 1) := by decide +kernel
theorem dX12_asked_399 : decode cX12_asked 399 = .ok (.if_icmp .ne 7, 3) := by decide +kernel
theorem dX12_asked_402 : decode cX12_asked 402 = .ok (.iconst 1, 1) := by decide +kernel
theorem dX12_asked_403 : decode cX12_asked 403 = .ok (.goto 4, 3) := by decide +kernel
theorem dX12_asked_406 : decode cX12_asked 406 = .ok (.iconst 0, 1) := by decide +kernel
theorem dX12_asked_407 : decode cX12_asked 407 = .ok (.istore 10, 2) := by decide +kernel
theorem dX12_asked_409 : decode cX12_asked 409 = .ok (.iload 10, 2) := by decide +kernel
theorem dX12_asked_411 : decode cX12_asked 411 = .ok (.ifCond .eq 12, 3) := by decide +kernel
theorem dX12_asked_414 : decode cX12_asked 414 = .ok (.aload_n 0, 1) := by decide +kernel
theorem dX12_asked_415 : decode cX12_asked 415 = .ok (.getfield 7, 3) := by decide +kernel
theorem dX12_asked_418 : decode cX12_asked 418 = .ok (.iload_n 1, 1) := by decide +kernel
theorem dX12_asked_419 : decode cX12_asked 419 = .ok (.iaload, 1) := by decide +kernel
theorem dX12_asked_420 : decode cX12_asked 420 = .ok (.goto 4, 3) := by decide +kernel
theorem dX12_asked_423 : decode cX12_asked 423 = .ok (.iconst 0, 1) := by decide +kernel
theorem dX12_asked_424 : decode cX12_asked 424 = .ok (.ireturn, 1) := by decide +kernel
theorem dX12_fits_0 : decode cX12_fits 0 = .ok (.iconst 0, 1) := by decide +kernel
theorem dX12_fits_1 : decode cX12_fits 1 = .ok (.istore 4, 2) := by decide +kernel
theorem dX12_fits_3 : decode cX12_fits 3 = .ok (.aload_n 0, 1) := by decide +kernel
theorem dX12_fits_4 : decode cX12_fits 4 = .ok (.getfield 184, 3) := by decide +kernel
theorem dX12_fits_7 : decode cX12_fits 7 = .ok (.iconst 1, 1) := by decide +kernel
theorem dX12_fits_8 : decode cX12_fits 8 = .ok (.isub, 1) := by decide +kernel
theorem dX12_fits_9 : decode cX12_fits 9 = .ok (.istore 5, 2) := by decide +kernel
theorem dX12_fits_11 : decode cX12_fits 11 = .ok (.iload 5, 2) := by decide +kernel
theorem dX12_fits_13 : decode cX12_fits 13 = .ok (.ifCond .lt 128, 3) := by decide +kernel
theorem dX12_fits_16 : decode cX12_fits 16 = .ok (.iload 5, 2) := by decide +kernel
theorem dX12_fits_18 : decode cX12_fits 18 = .ok (.aload_n 0, 1) := by decide +kernel
theorem dX12_fits_19 : decode cX12_fits 19 = .ok (.getfield 184, 3) := by decide +kernel
theorem dX12_fits_22 : decode cX12_fits 22 = .ok (.bipush 41, 2) := by decide +kernel
theorem dX12_fits_24 : decode cX12_fits 24 = .ok (.isub, 1) := by decide +kernel
theorem dX12_fits_25 : decode cX12_fits 25 = .ok (.if_icmp .le 116, 3) := by decide +kernel
theorem dX12_fits_28 : decode cX12_fits 28 = .ok (.iload 5, 2) := by decide +kernel
theorem dX12_fits_30 : decode cX12_fits 30 = .ok (.bipush 40, 2) := by decide +kernel
theorem dX12_fits_32 : decode cX12_fits 32 = .ok (.irem, 1) := by decide +kernel
theorem dX12_fits_33 : decode cX12_fits 33 = .ok (.istore 6, 2) := by decide +kernel
theorem dX12_fits_35 : decode cX12_fits 35 = .ok (.iload_n 3, 1) := by decide +kernel
theorem dX12_fits_36 : decode cX12_fits 36 = .ok (.aload_n 0, 1) := by decide +kernel
theorem dX12_fits_37 : decode cX12_fits 37 = .ok (.getfield 59, 3) := by decide +kernel
theorem dX12_fits_40 : decode cX12_fits 40 = .ok (.iload 6, 2) := by decide +kernel
theorem dX12_fits_42 : decode cX12_fits 42 = .ok (.iaload, 1) := by decide +kernel
theorem dX12_fits_43 : decode cX12_fits 43 = .ok (.isub, 1) := by decide +kernel
theorem dX12_fits_44 : decode cX12_fits 44 = .ok (.istore 7, 2) := by decide +kernel
theorem dX12_fits_46 : decode cX12_fits 46 = .ok (.iconst 0, 1) := by decide +kernel
theorem dX12_fits_47 : decode cX12_fits 47 = .ok (.istore 8, 2) := by decide +kernel
theorem dX12_fits_49 : decode cX12_fits 49 = .ok (.iload 8, 2) := by decide +kernel
theorem dX12_fits_51 : decode cX12_fits 51 = .ok (.bipush 13, 2) := by decide +kernel
theorem dX12_fits_53 : decode cX12_fits 53 = .ok (.if_icmp .ge 45, 3) := by decide +kernel
theorem dX12_fits_56 : decode cX12_fits 56 = .ok (.iload 8, 2) := by decide +kernel
theorem dX12_fits_58 : decode cX12_fits 58 = .ok (.bipush 10, 2) := by decide +kernel
theorem dX12_fits_60 : decode cX12_fits 60 = .ok (.if_icmp .eq 32, 3) := by decide +kernel
theorem dX12_fits_63 : decode cX12_fits 63 = .ok (.iload 7, 2) := by decide +kernel
theorem dX12_fits_65 : decode cX12_fits 65 = .ok (.aload_n 0, 1) := by decide +kernel
theorem dX12_fits_66 : decode cX12_fits 66 = .ok (.iload 8, 2) := by decide +kernel
theorem dX12_fits_68 : decode cX12_fits 68 = .ok (.aload_n 0, 1) := by decide +kernel
theorem dX12_fits_69 : decode cX12_fits 69 = .ok (.getfield 62, 3) := by decide +kernel
theorem dX12_fits_72 : decode cX12_fits 72 = .ok (.iload 6, 2) := by decide +kernel
theorem dX12_fits_74 : decode cX12_fits 74 = .ok (.iaload, 1) := by decide +kernel
theorem dX12_fits_75 : decode cX12_fits 75 = .ok (.aload_n 0, 1) := by decide +kernel
theorem dX12_fits_76 : decode cX12_fits 76 = .ok (.getfield 65, 3) := by decide +kernel
theorem dX12_fits_79 : decode cX12_fits 79 = .ok (.iload 6, 2) := by decide +kernel
theorem dX12_fits_81 : decode cX12_fits 81 = .ok (.iaload, 1) := by decide +kernel
theorem dX12_fits_82 : decode cX12_fits 82 = .ok (.iload_n 1, 1) := by decide +kernel
theorem dX12_fits_83 : decode cX12_fits 83 = .ok (.iload_n 2, 1) := by decide +kernel
theorem dX12_fits_84 : decode cX12_fits 84 = .ok (.invokevirtual 187, 3) := by decide +kernel
theorem dX12_fits_87 : decode cX12_fits 87 = .ok (.if_icmp .ge 5, 3) := by decide +kernel
theorem dX12_fits_90 : decode cX12_fits 90 = .ok (.iconst 0, 1) := by decide +kernel
theorem dX12_fits_91 : decode cX12_fits 91 = .ok (.ireturn, 1) := by decide +kernel
theorem dX12_fits_92 : decode cX12_fits 92 = .ok (.iinc 8 1, 3) := by decide +kernel
theorem dX12_fits_95 : decode cX12_fits 95 = .ok (.goto (-46), 3) := by decide +kernel
theorem dX12_fits_98 : decode cX12_fits 98 = .ok (.aload_n 0, 1) := by decide +kernel
theorem dX12_fits_99 : decode cX12_fits 99 = .ok (.getfield 62, 3) := by decide +kernel
theorem dX12_fits_102 : decode cX12_fits 102 = .ok (.iload 6, 2) := by decide +kernel
theorem dX12_fits_104 : decode cX12_fits 104 = .ok (.iaload, 1) := by decide +kernel
theorem dX12_fits_105 : decode cX12_fits 105 = .ok (.ifCond .ne 30, 3) := by decide +kernel
theorem dX12_fits_108 : decode cX12_fits 108 = .ok (.iload_n 1, 1) := by decide +kernel
theorem dX12_fits_109 : decode cX12_fits 109 = .ok (.ifCond .ne 26, 3) := by decide +kernel
theorem dX12_fits_112 : decode cX12_fits 112 = .ok (.iinc 4 1, 3) := by decide +kernel
theorem dX12_fits_115 : decode cX12_fits 115 = .ok (.iload 4, 2) := by decide +kernel
theorem dX12_fits_117 : decode cX12_fits 117 = .ok (.iconst 4, 1) := by decide +kernel
theorem dX12_fits_118 : decode cX12_fits 118 = .ok (.if_icmp .ne 17, 3) := by decide +kernel
theorem dX12_fits_121 : decode cX12_fits 121 = .ok (.iload 7, 2) := by decide +kernel
theorem dX12_fits_123 : decode cX12_fits 123 = .ok (.aload_n 0, 1) := by decide +kernel
theorem dX12_fits_124 : decode cX12_fits 124 = .ok (.getfield 7, 3) := by decide +kernel
theorem dX12_fits_127 : decode cX12_fits 127 = .ok (.bipush 10, 2) := by decide +kernel
theorem dX12_fits_129 : decode cX12_fits 129 = .ok (.iaload, 1) := by decide +kernel
theorem dX12_fits_130 : decode cX12_fits 130 = .ok (.if_icmp .ge 5, 3) := by decide +kernel
theorem dX12_fits_133 : decode cX12_fits 133 = .ok (.iconst 0, 1) := by decide +kernel
theorem dX12_fits_134 : decode cX12_fits 134 = .ok (.ireturn, 1) := by decide +kernel
theorem dX12_fits_135 : decode cX12_fits 135 = .ok (.iinc 5 (-1), 3) := by decide +kernel
theorem dX12_fits_138 : decode cX12_fits 138 = .ok (.goto (-127), 3) := by decide +kernel
theorem dX12_fits_141 : decode cX12_fits 141 = .ok (.iconst 1, 1) := by decide +kernel
theorem dX12_fits_142 : decode cX12_fits 142 = .ok (.ireturn, 1) := by decide +kernel
theorem dX12_allShut_0 : decode cX12_allShut 0 = .ok (.aload_n 0, 1) := by decide +kernel
theorem dX12_allShut_1 : decode cX12_allShut 1 = .ok (.getfield 23, 3) := by decide +kernel
theorem dX12_allShut_4 : decode cX12_allShut 4 = .ok (.iconst 0, 1) := by decide +kernel
theorem dX12_allShut_5 : decode cX12_allShut 5 = .ok (.iaload, 1) := by decide +kernel
theorem dX12_allShut_6 : decode cX12_allShut 6 = .ok (.ifCond .ge 34, 3) := by decide +kernel
theorem dX12_allShut_9 : decode cX12_allShut 9 = .ok (.aload_n 0, 1) := by decide +kernel
theorem dX12_allShut_10 : decode cX12_allShut 10 = .ok (.getfield 23, 3) := by decide +kernel
theorem dX12_allShut_13 : decode cX12_allShut 13 = .ok (.iconst 1, 1) := by decide +kernel
theorem dX12_allShut_14 : decode cX12_allShut 14 = .ok (.iaload, 1) := by decide +kernel
theorem dX12_allShut_15 : decode cX12_allShut 15 = .ok (.ifCond .ge 25, 3) := by decide +kernel
theorem dX12_allShut_18 : decode cX12_allShut 18 = .ok (.aload_n 0, 1) := by decide +kernel
theorem dX12_allShut_19 : decode cX12_allShut 19 = .ok (.getfield 23, 3) := by decide +kernel
theorem dX12_allShut_22 : decode cX12_allShut 22 = .ok (.iconst 2, 1) := by decide +kernel
theorem dX12_allShut_23 : decode cX12_allShut 23 = .ok (.iaload, 1) := by decide +kernel
theorem dX12_allShut_24 : decode cX12_allShut 24 = .ok (.ifCond .ge 16, 3) := by decide +kernel
theorem dX12_allShut_27 : decode cX12_allShut 27 = .ok (.aload_n 0, 1) := by decide +kernel
theorem dX12_allShut_28 : decode cX12_allShut 28 = .ok (.getfield 23, 3) := by decide +kernel
theorem dX12_allShut_31 : decode cX12_allShut 31 = .ok (.iconst 3, 1) := by decide +kernel
theorem dX12_allShut_32 : decode cX12_allShut 32 = .ok (.iaload, 1) := by decide +kernel
theorem dX12_allShut_33 : decode cX12_allShut 33 = .ok (.ifCond .ge 7, 3) := by decide +kernel
theorem dX12_allShut_36 : decode cX12_allShut 36 = .ok (.iconst 1, 1) := by decide +kernel
theorem dX12_allShut_37 : decode cX12_allShut 37 = .ok (.goto 4, 3) := by decide +kernel
theorem dX12_allShut_40 : decode cX12_allShut 40 = .ok (.iconst 0, 1) := by decide +kernel
theorem dX12_allShut_41 : decode cX12_allShut 41 = .ok (.ireturn, 1) := by decide +kernel
theorem dX12_stands_0 : decode cX12_stands 0 = .ok (.iload_n 1, 1) := by decide +kernel
theorem dX12_stands_1 : decode cX12_stands 1 = .ok (.iconst 4, 1) := by decide +kernel
theorem dX12_stands_2 : decode cX12_stands 2 = .ok (.if_icmp .ne 10, 3) := by decide +kernel
theorem dX12_stands_5 : decode cX12_stands 5 = .ok (.aload_n 0, 1) := by decide +kernel
theorem dX12_stands_6 : decode cX12_stands 6 = .ok (.invokevirtual 190, 3) := by decide +kernel
theorem dX12_stands_9 : decode cX12_stands 9 = .ok (.goto 38, 3) := by decide +kernel
theorem dX12_stands_12 : decode cX12_stands 12 = .ok (.iload_n 1, 1) := by decide +kernel
theorem dX12_stands_13 : decode cX12_stands 13 = .ok (.ifCond .ne 20, 3) := by decide +kernel
theorem dX12_stands_16 : decode cX12_stands 16 = .ok (.aload_n 0, 1) := by decide +kernel
theorem dX12_stands_17 : decode cX12_stands 17 = .ok (.getfield 23, 3) := by decide +kernel
theorem dX12_stands_20 : decode cX12_stands 20 = .ok (.iload_n 2, 1) := by decide +kernel
theorem dX12_stands_21 : decode cX12_stands 21 = .ok (.iaload, 1) := by decide +kernel
theorem dX12_stands_22 : decode cX12_stands 22 = .ok (.ifCond .ge 7, 3) := by decide +kernel
theorem dX12_stands_25 : decode cX12_stands 25 = .ok (.iconst 1, 1) := by decide +kernel
theorem dX12_stands_26 : decode cX12_stands 26 = .ok (.goto 21, 3) := by decide +kernel
theorem dX12_stands_29 : decode cX12_stands 29 = .ok (.iconst 0, 1) := by decide +kernel
theorem dX12_stands_30 : decode cX12_stands 30 = .ok (.goto 17, 3) := by decide +kernel
theorem dX12_stands_33 : decode cX12_stands 33 = .ok (.aload_n 0, 1) := by decide +kernel
theorem dX12_stands_34 : decode cX12_stands 34 = .ok (.getfield 23, 3) := by decide +kernel
theorem dX12_stands_37 : decode cX12_stands 37 = .ok (.iload_n 2, 1) := by decide +kernel
theorem dX12_stands_38 : decode cX12_stands 38 = .ok (.iaload, 1) := by decide +kernel
theorem dX12_stands_39 : decode cX12_stands 39 = .ok (.ifCond .lt 7, 3) := by decide +kernel
theorem dX12_stands_42 : decode cX12_stands 42 = .ok (.iconst 1, 1) := by decide +kernel
theorem dX12_stands_43 : decode cX12_stands 43 = .ok (.goto 4, 3) := by decide +kernel
theorem dX12_stands_46 : decode cX12_stands 46 = .ok (.iconst 0, 1) := by decide +kernel
theorem dX12_stands_47 : decode cX12_stands 47 = .ok (.ireturn, 1) := by decide +kernel
theorem dX12_canGo_0 : decode cX12_canGo 0 = .ok (.aload_n 0, 1) := by decide +kernel
theorem dX12_canGo_1 : decode cX12_canGo 1 = .ok (.iload_n 1, 1) := by decide +kernel
theorem dX12_canGo_2 : decode cX12_canGo 2 = .ok (.iload_n 2, 1) := by decide +kernel
theorem dX12_canGo_3 : decode cX12_canGo 3 = .ok (.invokevirtual 194, 3) := by decide +kernel
theorem dX12_canGo_6 : decode cX12_canGo 6 = .ok (.ifCond .eq 20, 3) := by decide +kernel
theorem dX12_canGo_9 : decode cX12_canGo 9 = .ok (.aload_n 0, 1) := by decide +kernel
theorem dX12_canGo_10 : decode cX12_canGo 10 = .ok (.iload_n 1, 1) := by decide +kernel
theorem dX12_canGo_11 : decode cX12_canGo 11 = .ok (.iload_n 2, 1) := by decide +kernel
theorem dX12_canGo_12 : decode cX12_canGo 12 = .ok (.aload_n 0, 1) := by decide +kernel
theorem dX12_canGo_13 : decode cX12_canGo 13 = .ok (.getfield 20, 3) := by decide +kernel
theorem dX12_canGo_16 : decode cX12_canGo 16 = .ok (.invokevirtual 198, 3) := by decide +kernel
theorem dX12_canGo_19 : decode cX12_canGo 19 = .ok (.ifCond .eq 7, 3) := by decide +kernel
theorem dX12_canGo_22 : decode cX12_canGo 22 = .ok (.iconst 1, 1) := by decide +kernel
theorem dX12_canGo_23 : decode cX12_canGo 23 = .ok (.goto 4, 3) := by decide +kernel
theorem dX12_canGo_26 : decode cX12_canGo 26 = .ok (.iconst 0, 1) := by decide +kernel
theorem dX12_canGo_27 : decode cX12_canGo 27 = .ok (.ireturn, 1) := by decide +kernel
theorem dX12_choose_0 : decode cX12_choose 0 = .ok (.aload_n 0, 1) := by decide +kernel
theorem dX12_choose_1 : decode cX12_choose 1 = .ok (.iload_n 1, 1) := by decide +kernel
theorem dX12_choose_2 : decode cX12_choose 2 = .ok (.putfield 202, 3) := by decide +kernel
theorem dX12_choose_5 : decode cX12_choose 5 = .ok (.aload_n 0, 1) := by decide +kernel
theorem dX12_choose_6 : decode cX12_choose 6 = .ok (.iload_n 2, 1) := by decide +kernel
theorem dX12_choose_7 : decode cX12_choose 7 = .ok (.putfield 205, 3) := by decide +kernel
theorem dX12_choose_10 : decode cX12_choose 10 = .ok (.aload_n 0, 1) := by decide +kernel
theorem dX12_choose_11 : decode cX12_choose 11 = .ok (.iload_n 3, 1) := by decide +kernel
theorem dX12_choose_12 : decode cX12_choose 12 = .ok (.putfield 208, 3) := by decide +kernel
theorem dX12_choose_15 : decode cX12_choose 15 = .ok (.return_, 1) := by decide +kernel
theorem dX12_commandOf_0 : decode cX12_commandOf 0 = .ok (.aload_n 0, 1) := by decide +kernel
theorem dX12_commandOf_1 : decode cX12_commandOf 1 = .ok (.getfield 35, 3) := by decide +kernel
theorem dX12_commandOf_4 : decode cX12_commandOf 4 = .ok (.iload_n 1, 1) := by decide +kernel
theorem dX12_commandOf_5 : decode cX12_commandOf 5 = .ok (.iaload, 1) := by decide +kernel
theorem dX12_commandOf_6 : decode cX12_commandOf 6 = .ok (.invokestatic 168, 3) := by decide +kernel
theorem dX12_commandOf_9 : decode cX12_commandOf 9 = .ok (.istore_n 2, 1) := by decide +kernel
theorem dX12_commandOf_10 : decode cX12_commandOf 10 = .ok (.aload_n 0, 1) := by decide +kernel
theorem dX12_commandOf_11 : decode cX12_commandOf 11 = .ok (.iload_n 1, 1) := by decide +kernel
theorem dX12_commandOf_12 : decode cX12_commandOf 12 = .ok (.invokevirtual 175, 3) := by decide +kernel
theorem dX12_commandOf_15 : decode cX12_commandOf 15 = .ok (.ifCond .eq 20, 3) := by decide +kernel
theorem dX12_commandOf_18 : decode cX12_commandOf 18 = .ok (.aload_n 0, 1) := by decide +kernel
theorem dX12_commandOf_19 : decode cX12_commandOf 19 = .ok (.getfield 29, 3) := by decide +kernel
theorem dX12_commandOf_22 : decode cX12_commandOf 22 = .ok (.iload_n 1, 1) := by decide +kernel
theorem dX12_commandOf_23 : decode cX12_commandOf 23 = .ok (.iaload, 1) := by decide +kernel
theorem dX12_commandOf_24 : decode cX12_commandOf 24 = .ok (.ifCond .ne 7, 3) := by decide +kernel
theorem dX12_commandOf_27 : decode cX12_commandOf 27 = .ok (.iconst 2, 1) := by decide +kernel
theorem dX12_commandOf_28 : decode cX12_commandOf 28 = .ok (.goto 21, 3) := by decide +kernel
theorem dX12_commandOf_31 : decode cX12_commandOf 31 = .ok (.iconst 3, 1) := by decide +kernel
theorem dX12_commandOf_32 : decode cX12_commandOf 32 = .ok (.goto 17, 3) := by decide +kernel
theorem dX12_commandOf_35 : decode cX12_commandOf 35 = .ok (.aload_n 0, 1) := by decide +kernel
theorem dX12_commandOf_36 : decode cX12_commandOf 36 = .ok (.getfield 23, 3) := by decide +kernel
theorem dX12_commandOf_39 : decode cX12_commandOf 39 = .ok (.iload_n 2, 1) := by decide +kernel
theorem dX12_commandOf_40 : decode cX12_commandOf 40 = .ok (.iaload, 1) := by decide +kernel
theorem dX12_commandOf_41 : decode cX12_commandOf 41 = .ok (.ifCond .lt 7, 3) := by decide +kernel
theorem dX12_commandOf_44 : decode cX12_commandOf 44 = .ok (.iconst 1, 1) := by decide +kernel
theorem dX12_commandOf_45 : decode cX12_commandOf 45 = .ok (.goto 4, 3) := by decide +kernel
theorem dX12_commandOf_48 : decode cX12_commandOf 48 = .ok (.iconst 0, 1) := by decide +kernel
theorem dX12_commandOf_49 : decode cX12_commandOf 49 = .ok (.ireturn, 1) := by decide +kernel
theorem dX12_isFirst_0 : decode cX12_isFirst 0 = .ok (.iconst 1, 1) := by decide +kernel
theorem dX12_isFirst_1 : decode cX12_isFirst 1 = .ok (.istore_n 2, 1) := by decide +kernel
theorem dX12_isFirst_2 : decode cX12_isFirst 2 = .ok (.iconst 0, 1) := by decide +kernel
theorem dX12_isFirst_3 : decode cX12_isFirst 3 = .ok (.istore_n 3, 1) := by decide +kernel
theorem dX12_isFirst_4 : decode cX12_isFirst 4 = .ok (.iload_n 3, 1) := by decide +kernel
theorem dX12_isFirst_5 : decode cX12_isFirst 5 = .ok (.iload_n 1, 1) := by decide +kernel
theorem dX12_isFirst_6 : decode cX12_isFirst 6 = .ok (.if_icmp .ge 63, 3) := by decide +kernel
theorem dX12_isFirst_9 : decode cX12_isFirst 9 = .ok (.iload_n 2, 1) := by decide +kernel
theorem dX12_isFirst_10 : decode cX12_isFirst 10 = .ok (.ifCond .eq 51, 3) := by decide +kernel
theorem dX12_isFirst_13 : decode cX12_isFirst 13 = .ok (.aload_n 0, 1) := by decide +kernel
theorem dX12_isFirst_14 : decode cX12_isFirst 14 = .ok (.getfield 35, 3) := by decide +kernel
theorem dX12_isFirst_17 : decode cX12_isFirst 17 = .ok (.aload_n 0, 1) := by decide +kernel
theorem dX12_isFirst_18 : decode cX12_isFirst 18 = .ok (.getfield 89, 3) := by decide +kernel
theorem dX12_isFirst_21 : decode cX12_isFirst 21 = .ok (.iload_n 3, 1) := by decide +kernel
theorem dX12_isFirst_22 : decode cX12_isFirst 22 = .ok (.iaload, 1) := by decide +kernel
theorem dX12_isFirst_23 : decode cX12_isFirst 23 = .ok (.iaload, 1) := by decide +kernel
theorem dX12_isFirst_24 : decode cX12_isFirst 24 = .ok (.invokestatic 168, 3) := by decide +kernel
theorem dX12_isFirst_27 : decode cX12_isFirst 27 = .ok (.aload_n 0, 1) := by decide +kernel
theorem dX12_isFirst_28 : decode cX12_isFirst 28 = .ok (.getfield 35, 3) := by decide +kernel
theorem dX12_isFirst_31 : decode cX12_isFirst 31 = .ok (.aload_n 0, 1) := by decide +kernel
theorem dX12_isFirst_32 : decode cX12_isFirst 32 = .ok (.getfield 89, 3) := by decide +kernel
theorem dX12_isFirst_35 : decode cX12_isFirst 35 = .ok (.iload_n 1, 1) := by decide +kernel
theorem dX12_isFirst_36 : decode cX12_isFirst 36 = .ok (.iaload, 1) := by decide +kernel
theorem dX12_isFirst_37 : decode cX12_isFirst 37 = .ok (.iaload, 1) := by decide +kernel
theorem dX12_isFirst_38 : decode cX12_isFirst 38 = .ok (.invokestatic 168, 3) := by decide +kernel
theorem dX12_isFirst_41 : decode cX12_isFirst 41 = .ok (.if_icmp .ne 16, 3) := by decide +kernel
theorem dX12_isFirst_44 : decode cX12_isFirst 44 = .ok (.aload_n 0, 1) := by decide +kernel
theorem dX12_isFirst_45 : decode cX12_isFirst 45 = .ok (.aload_n 0, 1) := by decide +kernel
theorem dX12_isFirst_46 : decode cX12_isFirst 46 = .ok (.getfield 89, 3) := by decide +kernel
theorem dX12_isFirst_49 : decode cX12_isFirst 49 = .ok (.iload_n 3, 1) := by decide +kernel
theorem dX12_isFirst_50 : decode cX12_isFirst 50 = .ok (.iaload, 1) := by decide +kernel
theorem dX12_isFirst_51 : decode cX12_isFirst 51 = .ok (.invokevirtual 211, 3) := by decide +kernel
theorem dX12_isFirst_54 : decode cX12_isFirst 54 = .ok (.ifCond .eq 7, 3) := by decide +kernel
theorem dX12_isFirst_57 : decode cX12_isFirst 57 = .ok (.iconst 1, 1) := by decide +kernel
theorem dX12_isFirst_58 : decode cX12_isFirst 58 = .ok (.goto 4, 3) := by decide +kernel
theorem dX12_isFirst_61 : decode cX12_isFirst 61 = .ok (.iconst 0, 1) := by decide +kernel
theorem dX12_isFirst_62 : decode cX12_isFirst 62 = .ok (.istore_n 2, 1) := by decide +kernel
theorem dX12_isFirst_63 : decode cX12_isFirst 63 = .ok (.iinc 3 1, 3) := by decide +kernel
theorem dX12_isFirst_66 : decode cX12_isFirst 66 = .ok (.goto (-62), 3) := by decide +kernel
theorem dX12_isFirst_69 : decode cX12_isFirst 69 = .ok (.iload_n 2, 1) := by decide +kernel
theorem dX12_isFirst_70 : decode cX12_isFirst 70 = .ok (.ireturn, 1) := by decide +kernel
theorem dX12_plainWaiting_0 : decode cX12_plainWaiting 0 = .ok (.iconst 0, 1) := by decide +kernel
theorem dX12_plainWaiting_1 : decode cX12_plainWaiting 1 = .ok (.istore_n 1, 1) := by decide +kernel
theorem dX12_plainWaiting_2 : decode cX12_plainWaiting 2 = .ok (.iconst 0, 1) := by decide +kernel
theorem dX12_plainWaiting_3 : decode cX12_plainWaiting 3 = .ok (.istore_n 2, 1) := by decide +kernel
theorem dX12_plainWaiting_4 : decode cX12_plainWaiting 4 = .ok (.iload_n 2, 1) := by decide +kernel
theorem dX12_plainWaiting_5 : decode cX12_plainWaiting 5 = .ok (.aload_n 0, 1) := by decide +kernel
theorem dX12_plainWaiting_6 : decode cX12_plainWaiting 6 = .ok (.getfield 141, 3) := by decide +kernel
theorem dX12_plainWaiting_9 : decode cX12_plainWaiting 9 = .ok (.if_icmp .ge 35, 3) := by decide +kernel
theorem dX12_plainWaiting_12 : decode cX12_plainWaiting 12 = .ok (.iload_n 1, 1) := by decide +kernel
theorem dX12_plainWaiting_13 : decode cX12_plainWaiting 13 = .ok (.aload_n 0, 1) := by decide +kernel
theorem dX12_plainWaiting_14 : decode cX12_plainWaiting 14 = .ok (.iload_n 2, 1) := by decide +kernel
theorem dX12_plainWaiting_15 : decode cX12_plainWaiting 15 = .ok (.invokevirtual 164, 3) := by decide +kernel
theorem dX12_plainWaiting_18 : decode cX12_plainWaiting 18 = .ok (.ifCond .eq 17, 3) := by decide +kernel
theorem dX12_plainWaiting_21 : decode cX12_plainWaiting 21 = .ok (.aload_n 0, 1) := by decide +kernel
theorem dX12_plainWaiting_22 : decode cX12_plainWaiting 22 = .ok (.getfield 29, 3) := by decide +kernel
theorem dX12_plainWaiting_25 : decode cX12_plainWaiting 25 = .ok (.iload_n 2, 1) := by decide +kernel
theorem dX12_plainWaiting_26 : decode cX12_plainWaiting 26 = .ok (.iaload, 1) := by decide +kernel
theorem dX12_plainWaiting_27 : decode cX12_plainWaiting 27 = .ok (.iconst 4, 1) := by decide +kernel
theorem dX12_plainWaiting_28 : decode cX12_plainWaiting 28 = .ok (.if_icmp .eq 7, 3) := by decide +kernel
theorem dX12_plainWaiting_31 : decode cX12_plainWaiting 31 = .ok (.iconst 1, 1) := by decide +kernel
theorem dX12_plainWaiting_32 : decode cX12_plainWaiting 32 = .ok (.goto 4, 3) := by decide +kernel
theorem dX12_plainWaiting_35 : decode cX12_plainWaiting 35 = .ok (.iconst 0, 1) := by decide +kernel
theorem dX12_plainWaiting_36 : decode cX12_plainWaiting 36 = .ok (.iadd, 1) := by decide +kernel
theorem dX12_plainWaiting_37 : decode cX12_plainWaiting 37 = .ok (.istore_n 1, 1) := by decide +kernel
theorem dX12_plainWaiting_38 : decode cX12_plainWaiting 38 = .ok (.iinc 2 1, 3) := by decide +kernel
theorem dX12_plainWaiting_41 : decode cX12_plainWaiting 41 = .ok (.goto (-37), 3) := by decide +kernel
theorem dX12_plainWaiting_44 : decode cX12_plainWaiting 44 = .ok (.iload_n 1, 1) := by decide +kernel
theorem dX12_plainWaiting_45 : decode cX12_plainWaiting 45 = .ok (.ireturn, 1) := by decide +kernel
theorem dX12_find_0 : decode cX12_find 0 = .ok (.aload_n 0, 1) := by decide +kernel
theorem dX12_find_1 : decode cX12_find 1 = .ok (.bipush (-2), 2) := by decide +kernel
theorem dX12_find_3 : decode cX12_find 3 = .ok (.bipush (-2), 2) := by decide +kernel
theorem dX12_find_5 : decode cX12_find 5 = .ok (.bipush (-2), 2) := by decide +kernel
theorem dX12_find_7 : decode cX12_find 7 = .ok (.invokevirtual 214, 3) := by decide +kernel
theorem dX12_find_10 : decode cX12_find 10 = .ok (.aload_n 0, 1) := by decide +kernel
theorem dX12_find_11 : decode cX12_find 11 = .ok (.getfield 218, 3) := by decide +kernel
theorem dX12_find_14 : decode cX12_find 14 = .ok (.aload_n 0, 1) := by decide +kernel
theorem dX12_find_15 : decode cX12_find 15 = .ok (.getfield 13, 3) := by decide +kernel
theorem dX12_find_18 : decode cX12_find 18 = .ok (.if_icmp .ge 17, 3) := by decide +kernel
theorem dX12_find_21 : decode cX12_find 21 = .ok (.aload_n 0, 1) := by decide +kernel
theorem dX12_find_22 : decode cX12_find 22 = .ok (.getfield 218, 3) := by decide +kernel
theorem dX12_find_25 : decode cX12_find 25 = .ok (.ifCond .le 62, 3) := by decide +kernel
theorem dX12_find_28 : decode cX12_find 28 = .ok (.aload_n 0, 1) := by decide +kernel
theorem dX12_find_29 : decode cX12_find 29 = .ok (.invokevirtual 221, 3) := by decide +kernel
theorem dX12_find_32 : decode cX12_find 32 = .ok (.ifCond .ne 55, 3) := by decide +kernel
theorem dX12_find_35 : decode cX12_find 35 = .ok (.aload_n 0, 1) := by decide +kernel
theorem dX12_find_36 : decode cX12_find 36 = .ok (.iconst 4, 1) := by decide +kernel
theorem dX12_find_37 : decode cX12_find 37 = .ok (.bipush (-2), 2) := by decide +kernel
theorem dX12_find_39 : decode cX12_find 39 = .ok (.invokevirtual 225, 3) := by decide +kernel
theorem dX12_find_42 : decode cX12_find 42 = .ok (.ifCond .eq 13, 3) := by decide +kernel
theorem dX12_find_45 : decode cX12_find 45 = .ok (.aload_n 0, 1) := by decide +kernel
theorem dX12_find_46 : decode cX12_find 46 = .ok (.iconst 4, 1) := by decide +kernel
theorem dX12_find_47 : decode cX12_find 47 = .ok (.bipush (-2), 2) := by decide +kernel
theorem dX12_find_49 : decode cX12_find 49 = .ok (.bipush (-2), 2) := by decide +kernel
theorem dX12_find_51 : decode cX12_find 51 = .ok (.invokevirtual 214, 3) := by decide +kernel
theorem dX12_find_54 : decode cX12_find 54 = .ok (.return_, 1) := by decide +kernel
theorem dX12_find_55 : decode cX12_find 55 = .ok (.iconst 0, 1) := by decide +kernel
theorem dX12_find_56 : decode cX12_find 56 = .ok (.istore_n 1, 1) := by decide +kernel
theorem dX12_find_57 : decode cX12_find 57 = .ok (.iload_n 1, 1) := by decide +kernel
theorem dX12_find_58 : decode cX12_find 58 = .ok (.iconst 4, 1) := by decide +kernel
theorem dX12_find_59 : decode cX12_find 59 = .ok (.if_icmp .ge 27, 3) := by decide +kernel
theorem dX12_find_62 : decode cX12_find 62 = .ok (.aload_n 0, 1) := by decide +kernel
theorem dX12_find_63 : decode cX12_find 63 = .ok (.iconst 1, 1) := by decide +kernel
theorem dX12_find_64 : decode cX12_find 64 = .ok (.iload_n 1, 1) := by decide +kernel
theorem dX12_find_65 : decode cX12_find 65 = .ok (.invokevirtual 225, 3) := by decide +kernel
theorem dX12_find_68 : decode cX12_find 68 = .ok (.ifCond .eq 12, 3) := by decide +kernel
theorem dX12_find_71 : decode cX12_find 71 = .ok (.aload_n 0, 1) := by decide +kernel
theorem dX12_find_72 : decode cX12_find 72 = .ok (.iconst 1, 1) := by decide +kernel
theorem dX12_find_73 : decode cX12_find 73 = .ok (.iload_n 1, 1) := by decide +kernel
theorem dX12_find_74 : decode cX12_find 74 = .ok (.bipush (-2), 2) := by decide +kernel
theorem dX12_find_76 : decode cX12_find 76 = .ok (.invokevirtual 214, 3) := by decide +kernel
theorem dX12_find_79 : decode cX12_find 79 = .ok (.return_, 1) := by decide +kernel
theorem dX12_find_80 : decode cX12_find 80 = .ok (.iinc 1 1, 3) := by decide +kernel
theorem dX12_find_83 : decode cX12_find 83 = .ok (.goto (-26), 3) := by decide +kernel
theorem dX12_find_86 : decode cX12_find 86 = .ok (.return_, 1) := by decide +kernel
theorem dX12_find_87 : decode cX12_find 87 = .ok (.aload_n 0, 1) := by decide +kernel
theorem dX12_find_88 : decode cX12_find 88 = .ok (.invokevirtual 228, 3) := by decide +kernel
theorem dX12_find_91 : decode cX12_find 91 = .ok (.iconst 0, 1) := by decide +kernel
theorem dX12_find_92 : decode cX12_find 92 = .ok (.istore_n 1, 1) := by decide +kernel
theorem dX12_find_93 : decode cX12_find 93 = .ok (.iload_n 1, 1) := by decide +kernel
theorem dX12_find_94 : decode cX12_find 94 = .ok (.aload_n 0, 1) := by decide +kernel
theorem dX12_find_95 : decode cX12_find 95 = .ok (.getfield 178, 3) := by decide +kernel
theorem dX12_find_98 : decode cX12_find 98 = .ok (.if_icmp .ge 73, 3) := by decide +kernel
theorem dX12_find_101 : decode cX12_find 101 = .ok (.aload_n 0, 1) := by decide +kernel
theorem dX12_find_102 : decode cX12_find 102 = .ok (.getfield 89, 3) := by decide +kernel
theorem dX12_find_105 : decode cX12_find 105 = .ok (.iload_n 1, 1) := by decide +kernel
theorem dX12_find_106 : decode cX12_find 106 = .ok (.iaload, 1) := by decide +kernel
theorem dX12_find_107 : decode cX12_find 107 = .ok (.istore_n 2, 1) := by decide +kernel
theorem dX12_find_108 : decode cX12_find 108 = .ok (.aload_n 0, 1) := by decide +kernel
theorem dX12_find_109 : decode cX12_find 109 = .ok (.iload_n 2, 1) := by decide +kernel
theorem dX12_find_110 : decode cX12_find 110 = .ok (.invokevirtual 231, 3) := by decide +kernel
theorem dX12_find_113 : decode cX12_find 113 = .ok (.istore_n 3, 1) := by decide +kernel
theorem dX12_find_114 : decode cX12_find 114 = .ok (.aload_n 0, 1) := by decide +kernel
theorem dX12_find_115 : decode cX12_find 115 = .ok (.getfield 35, 3) := by decide +kernel
theorem dX12_find_118 : decode cX12_find 118 = .ok (.iload_n 2, 1) := by decide +kernel
theorem dX12_find_119 : decode cX12_find 119 = .ok (.iaload, 1) := by decide +kernel
theorem dX12_find_120 : decode cX12_find 120 = .ok (.invokestatic 168, 3) := by decide +kernel
theorem dX12_find_123 : decode cX12_find 123 = .ok (.istore 4, 2) := by decide +kernel
theorem dX12_find_125 : decode cX12_find 125 = .ok (.aload_n 0, 1) := by decide +kernel
theorem dX12_find_126 : decode cX12_find 126 = .ok (.iload_n 2, 1) := by decide +kernel
theorem dX12_find_127 : decode cX12_find 127 = .ok (.invokevirtual 211, 3) := by decide +kernel
theorem dX12_find_130 : decode cX12_find 130 = .ok (.ifCond .ne 35, 3) := by decide +kernel
theorem dX12_find_133 : decode cX12_find 133 = .ok (.iload_n 3, 1) := by decide +kernel
theorem dX12_find_134 : decode cX12_find 134 = .ok (.iconst 1, 1) := by decide +kernel
theorem dX12_find_135 : decode cX12_find 135 = .ok (.if_icmp .gt 11, 3) := by decide +kernel
theorem dX12_find_138 : decode cX12_find 138 = .ok (.aload_n 0, 1) := by decide +kernel
theorem dX12_find_139 : decode cX12_find 139 = .ok (.iload_n 1, 1) := by decide +kernel
theorem dX12_find_140 : decode cX12_find 140 = .ok (.invokevirtual 234, 3) := by decide +kernel
theorem dX12_find_143 : decode cX12_find 143 = .ok (.ifCond .eq 22, 3) := by decide +kernel
theorem dX12_find_146 : decode cX12_find 146 = .ok (.aload_n 0, 1) := by decide +kernel
theorem dX12_find_147 : decode cX12_find 147 = .ok (.iload_n 3, 1) := by decide +kernel
theorem dX12_find_148 : decode cX12_find 148 = .ok (.iload 4, 2) := by decide +kernel
theorem dX12_find_150 : decode cX12_find 150 = .ok (.invokevirtual 225, 3) := by decide +kernel
theorem dX12_find_153 : decode cX12_find 153 = .ok (.ifCond .eq 12, 3) := by decide +kernel
theorem dX12_find_156 : decode cX12_find 156 = .ok (.aload_n 0, 1) := by decide +kernel
theorem dX12_find_157 : decode cX12_find 157 = .ok (.iload_n 3, 1) := by decide +kernel
theorem dX12_find_158 : decode cX12_find 158 = .ok (.iload 4, 2) := by decide +kernel
theorem dX12_find_160 : decode cX12_find 160 = .ok (.iload_n 2, 1) := by decide +kernel
theorem dX12_find_161 : decode cX12_find 161 = .ok (.invokevirtual 214, 3) := by decide +kernel
theorem dX12_find_164 : decode cX12_find 164 = .ok (.return_, 1) := by decide +kernel
theorem dX12_find_165 : decode cX12_find 165 = .ok (.iinc 1 1, 3) := by decide +kernel
theorem dX12_find_168 : decode cX12_find 168 = .ok (.goto (-75), 3) := by decide +kernel
theorem dX12_find_171 : decode cX12_find 171 = .ok (.return_, 1) := by decide +kernel
theorem dX12_finish_0 : decode cX12_finish 0 = .ok (.aload_n 0, 1) := by decide +kernel
theorem dX12_finish_1 : decode cX12_finish 1 = .ok (.getfield 47, 3) := by decide +kernel
theorem dX12_finish_4 : decode cX12_finish 4 = .ok (.iload_n 1, 1) := by decide +kernel
theorem dX12_finish_5 : decode cX12_finish 5 = .ok (.aload_n 0, 1) := by decide +kernel
theorem dX12_finish_6 : decode cX12_finish 6 = .ok (.getfield 20, 3) := by decide +kernel
theorem dX12_finish_9 : decode cX12_finish 9 = .ok (.iastore, 1) := by decide +kernel
theorem dX12_finish_10 : decode cX12_finish 10 = .ok (.aload_n 0, 1) := by decide +kernel
theorem dX12_finish_11 : decode cX12_finish 11 = .ok (.dup, 1) := by decide +kernel
theorem dX12_finish_12 : decode cX12_finish 12 = .ok (.getfield 138, 3) := by decide +kernel
theorem dX12_finish_15 : decode cX12_finish 15 = .ok (.iconst 1, 1) := by decide +kernel
theorem dX12_finish_16 : decode cX12_finish 16 = .ok (.isub, 1) := by decide +kernel
theorem dX12_finish_17 : decode cX12_finish 17 = .ok (.putfield 138, 3) := by decide +kernel
theorem dX12_finish_20 : decode cX12_finish 20 = .ok (.aload_n 0, 1) := by decide +kernel
theorem dX12_finish_21 : decode cX12_finish 21 = .ok (.getfield 29, 3) := by decide +kernel
theorem dX12_finish_24 : decode cX12_finish 24 = .ok (.iload_n 1, 1) := by decide +kernel
theorem dX12_finish_25 : decode cX12_finish 25 = .ok (.iaload, 1) := by decide +kernel
theorem dX12_finish_26 : decode cX12_finish 26 = .ok (.iconst 4, 1) := by decide +kernel
theorem dX12_finish_27 : decode cX12_finish 27 = .ok (.if_icmp .eq 18, 3) := by decide +kernel
theorem dX12_finish_30 : decode cX12_finish 30 = .ok (.aload_n 0, 1) := by decide +kernel
theorem dX12_finish_31 : decode cX12_finish 31 = .ok (.getfield 53, 3) := by decide +kernel
theorem dX12_finish_34 : decode cX12_finish 34 = .ok (.aload_n 0, 1) := by decide +kernel
theorem dX12_finish_35 : decode cX12_finish 35 = .ok (.getfield 32, 3) := by decide +kernel
theorem dX12_finish_38 : decode cX12_finish 38 = .ok (.iload_n 1, 1) := by decide +kernel
theorem dX12_finish_39 : decode cX12_finish 39 = .ok (.iaload, 1) := by decide +kernel
theorem dX12_finish_40 : decode cX12_finish 40 = .ok (.dup2, 1) := by decide +kernel
theorem dX12_finish_41 : decode cX12_finish 41 = .ok (.iaload, 1) := by decide +kernel
theorem dX12_finish_42 : decode cX12_finish 42 = .ok (.iconst 1, 1) := by decide +kernel
theorem dX12_finish_43 : decode cX12_finish 43 = .ok (.iadd, 1) := by decide +kernel
theorem dX12_finish_44 : decode cX12_finish 44 = .ok (.iastore, 1) := by decide +kernel
theorem dX12_finish_45 : decode cX12_finish 45 = .ok (.return_, 1) := by decide +kernel
theorem dX12_access_0 : decode cX12_access 0 = .ok (.aload_n 0, 1) := by decide +kernel
theorem dX12_access_1 : decode cX12_access 1 = .ok (.getfield 35, 3) := by decide +kernel
theorem dX12_access_4 : decode cX12_access 4 = .ok (.iload_n 1, 1) := by decide +kernel
theorem dX12_access_5 : decode cX12_access 5 = .ok (.iaload, 1) := by decide +kernel
theorem dX12_access_6 : decode cX12_access 6 = .ok (.istore_n 2, 1) := by decide +kernel
theorem dX12_access_7 : decode cX12_access 7 = .ok (.aload_n 0, 1) := by decide +kernel
theorem dX12_access_8 : decode cX12_access 8 = .ok (.getfield 26, 3) := by decide +kernel
theorem dX12_access_11 : decode cX12_access 11 = .ok (.iload_n 2, 1) := by decide +kernel
theorem dX12_access_12 : decode cX12_access 12 = .ok (.iaload, 1) := by decide +kernel
theorem dX12_access_13 : decode cX12_access 13 = .ok (.istore_n 3, 1) := by decide +kernel
theorem dX12_access_14 : decode cX12_access 14 = .ok (.aload_n 0, 1) := by decide +kernel
theorem dX12_access_15 : decode cX12_access 15 = .ok (.getfield 29, 3) := by decide +kernel
theorem dX12_access_18 : decode cX12_access 18 = .ok (.iload_n 1, 1) := by decide +kernel
theorem dX12_access_19 : decode cX12_access 19 = .ok (.iaload, 1) := by decide +kernel
theorem dX12_access_20 : decode cX12_access 20 = .ok (.ifCond .eq 13, 3) := by decide +kernel
theorem dX12_access_23 : decode cX12_access 23 = .ok (.aload_n 0, 1) := by decide +kernel
theorem dX12_access_24 : decode cX12_access 24 = .ok (.getfield 29, 3) := by decide +kernel
theorem dX12_access_27 : decode cX12_access 27 = .ok (.iload_n 1, 1) := by decide +kernel
theorem dX12_access_28 : decode cX12_access 28 = .ok (.iaload, 1) := by decide +kernel
theorem dX12_access_29 : decode cX12_access 29 = .ok (.iconst 3, 1) := by decide +kernel
theorem dX12_access_30 : decode cX12_access 30 = .ok (.if_icmp .ne 10, 3) := by decide +kernel
theorem dX12_access_33 : decode cX12_access 33 = .ok (.aload_n 0, 1) := by decide +kernel
theorem dX12_access_34 : decode cX12_access 34 = .ok (.getfield 50, 3) := by decide +kernel
theorem dX12_access_37 : decode cX12_access 37 = .ok (.iload_n 1, 1) := by decide +kernel
theorem dX12_access_38 : decode cX12_access 38 = .ok (.iload_n 3, 1) := by decide +kernel
theorem dX12_access_39 : decode cX12_access 39 = .ok (.iastore, 1) := by decide +kernel
theorem dX12_access_40 : decode cX12_access 40 = .ok (.aload_n 0, 1) := by decide +kernel
theorem dX12_access_41 : decode cX12_access 41 = .ok (.getfield 29, 3) := by decide +kernel
theorem dX12_access_44 : decode cX12_access 44 = .ok (.iload_n 1, 1) := by decide +kernel
theorem dX12_access_45 : decode cX12_access 45 = .ok (.iaload, 1) := by decide +kernel
theorem dX12_access_46 : decode cX12_access 46 = .ok (.ifCond .eq 33, 3) := by decide +kernel
theorem dX12_access_49 : decode cX12_access 49 = .ok (.aload_n 0, 1) := by decide +kernel
theorem dX12_access_50 : decode cX12_access 50 = .ok (.getfield 26, 3) := by decide +kernel
theorem dX12_access_53 : decode cX12_access 53 = .ok (.iload_n 2, 1) := by decide +kernel
theorem dX12_access_54 : decode cX12_access 54 = .ok (.iload_n 3, 1) := by decide +kernel
theorem dX12_access_55 : decode cX12_access 55 = .ok (.aload_n 0, 1) := by decide +kernel
theorem dX12_access_56 : decode cX12_access 56 = .ok (.getfield 41, 3) := by decide +kernel
theorem dX12_access_59 : decode cX12_access 59 = .ok (.iload_n 1, 1) := by decide +kernel
theorem dX12_access_60 : decode cX12_access 60 = .ok (.iaload, 1) := by decide +kernel
theorem dX12_access_61 : decode cX12_access 61 = .ok (.iconst (-1), 1) := by decide +kernel
theorem dX12_access_62 : decode cX12_access 62 = .ok (.ixor, 1) := by decide +kernel
theorem dX12_access_63 : decode cX12_access 63 = .ok (.iand, 1) := by decide +kernel
theorem dX12_access_64 : decode cX12_access 64 = .ok (.aload_n 0, 1) := by decide +kernel
theorem dX12_access_65 : decode cX12_access 65 = .ok (.getfield 38, 3) := by decide +kernel
theorem dX12_access_68 : decode cX12_access 68 = .ok (.iload_n 1, 1) := by decide +kernel
theorem dX12_access_69 : decode cX12_access 69 = .ok (.iaload, 1) := by decide +kernel
theorem dX12_access_70 : decode cX12_access 70 = .ok (.aload_n 0, 1) := by decide +kernel
theorem dX12_access_71 : decode cX12_access 71 = .ok (.getfield 41, 3) := by decide +kernel
theorem dX12_access_74 : decode cX12_access 74 = .ok (.iload_n 1, 1) := by decide +kernel
theorem dX12_access_75 : decode cX12_access 75 = .ok (.iaload, 1) := by decide +kernel
theorem dX12_access_76 : decode cX12_access 76 = .ok (.iand, 1) := by decide +kernel
theorem dX12_access_77 : decode cX12_access 77 = .ok (.ior, 1) := by decide +kernel
theorem dX12_access_78 : decode cX12_access 78 = .ok (.iastore, 1) := by decide +kernel
theorem dX12_access_79 : decode cX12_access 79 = .ok (.aload_n 0, 1) := by decide +kernel
theorem dX12_access_80 : decode cX12_access 80 = .ok (.iload_n 1, 1) := by decide +kernel
theorem dX12_access_81 : decode cX12_access 81 = .ok (.invokevirtual 237, 3) := by decide +kernel
theorem dX12_access_84 : decode cX12_access 84 = .ok (.return_, 1) := by decide +kernel
theorem dX12_write__0 : decode cX12_write_ 0 = .ok (.aload_n 0, 1) := by decide +kernel
theorem dX12_write__1 : decode cX12_write_ 1 = .ok (.getfield 241, 3) := by decide +kernel
theorem dX12_write__4 : decode cX12_write_ 4 = .ok (.sipush 400, 3) := by decide +kernel
theorem dX12_write__7 : decode cX12_write_ 7 = .ok (.if_icmp .ge 142, 3) := by decide +kernel
theorem dX12_write__10 : decode cX12_write_ 10 = .ok (.aload_n 0, 1) := by decide +kernel
theorem dX12_write__11 : decode cX12_write_ 11 = .ok (.getfield 68, 3) := by decide +kernel
theorem dX12_write__14 : decode cX12_write_ 14 = .ok (.aload_n 0, 1) := by decide +kernel
theorem dX12_write__15 : decode cX12_write_ 15 = .ok (.getfield 241, 3) := by decide +kernel
theorem dX12_write__18 : decode cX12_write_ 18 = .ok (.aload_n 0, 1) := by decide +kernel
theorem dX12_write__19 : decode cX12_write_ 19 = .ok (.getfield 20, 3) := by decide +kernel
theorem dX12_write__22 : decode cX12_write_ 22 = .ok (.iastore, 1) := by decide +kernel
theorem dX12_write__23 : decode cX12_write_ 23 = .ok (.aload_n 0, 1) := by decide +kernel
theorem dX12_write__24 : decode cX12_write_ 24 = .ok (.getfield 71, 3) := by decide +kernel
theorem dX12_write__27 : decode cX12_write_ 27 = .ok (.aload_n 0, 1) := by decide +kernel
theorem dX12_write__28 : decode cX12_write_ 28 = .ok (.getfield 241, 3) := by decide +kernel
theorem dX12_write__31 : decode cX12_write_ 31 = .ok (.aload_n 0, 1) := by decide +kernel
theorem dX12_write__32 : decode cX12_write_ 32 = .ok (.getfield 20, 3) := by decide +kernel
theorem dX12_write__35 : decode cX12_write_ 35 = .ok (.iastore, 1) := by decide +kernel
theorem dX12_write__36 : decode cX12_write_ 36 = .ok (.aload_n 0, 1) := by decide +kernel
theorem dX12_write__37 : decode cX12_write_ 37 = .ok (.getfield 74, 3) := by decide +kernel
theorem dX12_write__40 : decode cX12_write_ 40 = .ok (.aload_n 0, 1) := by decide +kernel
theorem dX12_write__41 : decode cX12_write_ 41 = .ok (.getfield 241, 3) := by decide +kernel
theorem dX12_write__44 : decode cX12_write_ 44 = .ok (.aload_n 0, 1) := by decide +kernel
theorem dX12_write__45 : decode cX12_write_ 45 = .ok (.getfield 202, 3) := by decide +kernel
theorem dX12_write__48 : decode cX12_write_ 48 = .ok (.iastore, 1) := by decide +kernel
theorem dX12_write__49 : decode cX12_write_ 49 = .ok (.aload_n 0, 1) := by decide +kernel
theorem dX12_write__50 : decode cX12_write_ 50 = .ok (.getfield 77, 3) := by decide +kernel
theorem dX12_write__53 : decode cX12_write_ 53 = .ok (.aload_n 0, 1) := by decide +kernel
theorem dX12_write__54 : decode cX12_write_ 54 = .ok (.getfield 241, 3) := by decide +kernel
theorem dX12_write__57 : decode cX12_write_ 57 = .ok (.aload_n 0, 1) := by decide +kernel
theorem dX12_write__58 : decode cX12_write_ 58 = .ok (.getfield 205, 3) := by decide +kernel
theorem dX12_write__61 : decode cX12_write_ 61 = .ok (.iastore, 1) := by decide +kernel
theorem dX12_write__62 : decode cX12_write_ 62 = .ok (.aload_n 0, 1) := by decide +kernel
theorem dX12_write__63 : decode cX12_write_ 63 = .ok (.getfield 83, 3) := by decide +kernel
theorem dX12_write__66 : decode cX12_write_ 66 = .ok (.aload_n 0, 1) := by decide +kernel
theorem dX12_write__67 : decode cX12_write_ 67 = .ok (.getfield 241, 3) := by decide +kernel
theorem dX12_write__70 : decode cX12_write_ 70 = .ok (.aload_n 0, 1) := by decide +kernel
theorem dX12_write__71 : decode cX12_write_ 71 = .ok (.getfield 208, 3) := by decide +kernel
theorem dX12_write__74 : decode cX12_write_ 74 = .ok (.iastore, 1) := by decide +kernel
theorem dX12_write__75 : decode cX12_write_ 75 = .ok (.aload_n 0, 1) := by decide +kernel
theorem dX12_write__76 : decode cX12_write_ 76 = .ok (.getfield 80, 3) := by decide +kernel
theorem dX12_write__79 : decode cX12_write_ 79 = .ok (.aload_n 0, 1) := by decide +kernel
theorem dX12_write__80 : decode cX12_write_ 80 = .ok (.getfield 241, 3) := by decide +kernel
theorem dX12_write__83 : decode cX12_write_ 83 = .ok (.aload_n 0, 1) := by decide +kernel
theorem dX12_write__84 : decode cX12_write_ 84 = .ok (.getfield 202, 3) := by decide +kernel
theorem dX12_write__87 : decode cX12_write_ 87 = .ok (.ifCond .ne 18, 3) := by decide +kernel
theorem dX12_write__90 : decode cX12_write_ 90 = .ok (.aload_n 0, 1) := by decide +kernel
theorem dX12_write__91 : decode cX12_write_ 91 = .ok (.getfield 35, 3) := by decide +kernel
theorem dX12_write__94 : decode cX12_write_ 94 = .ok (.aload_n 0, 1) := by decide +kernel
theorem dX12_write__95 : decode cX12_write_ 95 = .ok (.getfield 208, 3) := by decide +kernel
theorem dX12_write__98 : decode cX12_write_ 98 = .ok (.iaload, 1) := by decide +kernel
theorem dX12_write__99 : decode cX12_write_ 99 = .ok (.invokestatic 172, 3) := by decide +kernel
theorem dX12_write__102 : decode cX12_write_ 102 = .ok (.goto 36, 3) := by decide +kernel
theorem dX12_write__105 : decode cX12_write_ 105 = .ok (.aload_n 0, 1) := by decide +kernel
theorem dX12_write__106 : decode cX12_write_ 106 = .ok (.getfield 202, 3) := by decide +kernel
theorem dX12_write__109 : decode cX12_write_ 109 = .ok (.iconst 2, 1) := by decide +kernel
theorem dX12_write__110 : decode cX12_write_ 110 = .ok (.if_icmp .eq 11, 3) := by decide +kernel
theorem dX12_write__113 : decode cX12_write_ 113 = .ok (.aload_n 0, 1) := by decide +kernel
theorem dX12_write__114 : decode cX12_write_ 114 = .ok (.getfield 202, 3) := by decide +kernel
theorem dX12_write__117 : decode cX12_write_ 117 = .ok (.iconst 3, 1) := by decide +kernel
theorem dX12_write__118 : decode cX12_write_ 118 = .ok (.if_icmp .ne 18, 3) := by decide +kernel
theorem dX12_write__121 : decode cX12_write_ 121 = .ok (.aload_n 0, 1) := by decide +kernel
theorem dX12_write__122 : decode cX12_write_ 122 = .ok (.getfield 35, 3) := by decide +kernel
theorem dX12_write__125 : decode cX12_write_ 125 = .ok (.aload_n 0, 1) := by decide +kernel
theorem dX12_write__126 : decode cX12_write_ 126 = .ok (.getfield 208, 3) := by decide +kernel
theorem dX12_write__129 : decode cX12_write_ 129 = .ok (.iaload, 1) := by decide +kernel
theorem dX12_write__130 : decode cX12_write_ 130 = .ok (.bipush 16, 2) := by decide +kernel
theorem dX12_write__132 : decode cX12_write_ 132 = .ok (.irem, 1) := by decide +kernel
theorem dX12_write__133 : decode cX12_write_ 133 = .ok (.goto 5, 3) := by decide +kernel
theorem dX12_write__136 : decode cX12_write_ 136 = .ok (.bipush (-2), 2) := by decide +kernel
theorem dX12_write__138 : decode cX12_write_ 138 = .ok (.iastore, 1) := by decide +kernel
theorem dX12_write__139 : decode cX12_write_ 139 = .ok (.aload_n 0, 1) := by decide +kernel
theorem dX12_write__140 : decode cX12_write_ 140 = .ok (.dup, 1) := by decide +kernel
theorem dX12_write__141 : decode cX12_write_ 141 = .ok (.getfield 241, 3) := by decide +kernel
theorem dX12_write__144 : decode cX12_write_ 144 = .ok (.iconst 1, 1) := by decide +kernel
theorem dX12_write__145 : decode cX12_write_ 145 = .ok (.iadd, 1) := by decide +kernel
theorem dX12_write__146 : decode cX12_write_ 146 = .ok (.putfield 241, 3) := by decide +kernel
theorem dX12_write__149 : decode cX12_write_ 149 = .ok (.aload_n 0, 1) := by decide +kernel
theorem dX12_write__150 : decode cX12_write_ 150 = .ok (.getfield 184, 3) := by decide +kernel
theorem dX12_write__153 : decode cX12_write_ 153 = .ok (.bipush 40, 2) := by decide +kernel
theorem dX12_write__155 : decode cX12_write_ 155 = .ok (.irem, 1) := by decide +kernel
theorem dX12_write__156 : decode cX12_write_ 156 = .ok (.istore_n 1, 1) := by decide +kernel
theorem dX12_write__157 : decode cX12_write_ 157 = .ok (.aload_n 0, 1) := by decide +kernel
theorem dX12_write__158 : decode cX12_write_ 158 = .ok (.getfield 59, 3) := by decide +kernel
theorem dX12_write__161 : decode cX12_write_ 161 = .ok (.iload_n 1, 1) := by decide +kernel
theorem dX12_write__162 : decode cX12_write_ 162 = .ok (.aload_n 0, 1) := by decide +kernel
theorem dX12_write__163 : decode cX12_write_ 163 = .ok (.getfield 20, 3) := by decide +kernel
theorem dX12_write__166 : decode cX12_write_ 166 = .ok (.iastore, 1) := by decide +kernel
theorem dX12_write__167 : decode cX12_write_ 167 = .ok (.aload_n 0, 1) := by decide +kernel
theorem dX12_write__168 : decode cX12_write_ 168 = .ok (.getfield 62, 3) := by decide +kernel
theorem dX12_write__171 : decode cX12_write_ 171 = .ok (.iload_n 1, 1) := by decide +kernel
theorem dX12_write__172 : decode cX12_write_ 172 = .ok (.aload_n 0, 1) := by decide +kernel
theorem dX12_write__173 : decode cX12_write_ 173 = .ok (.getfield 202, 3) := by decide +kernel
theorem dX12_write__176 : decode cX12_write_ 176 = .ok (.iastore, 1) := by decide +kernel
theorem dX12_write__177 : decode cX12_write_ 177 = .ok (.aload_n 0, 1) := by decide +kernel
theorem dX12_write__178 : decode cX12_write_ 178 = .ok (.getfield 65, 3) := by decide +kernel
theorem dX12_write__181 : decode cX12_write_ 181 = .ok (.iload_n 1, 1) := by decide +kernel
theorem dX12_write__182 : decode cX12_write_ 182 = .ok (.aload_n 0, 1) := by decide +kernel
theorem dX12_write__183 : decode cX12_write_ 183 = .ok (.getfield 205, 3) := by decide +kernel
theorem dX12_write__186 : decode cX12_write_ 186 = .ok (.iastore, 1) := by decide +kernel
theorem dX12_write__187 : decode cX12_write_ 187 = .ok (.aload_n 0, 1) := by decide +kernel
theorem dX12_write__188 : decode cX12_write_ 188 = .ok (.dup, 1) := by decide +kernel
theorem dX12_write__189 : decode cX12_write_ 189 = .ok (.getfield 184, 3) := by decide +kernel
theorem dX12_write__192 : decode cX12_write_ 192 = .ok (.iconst 1, 1) := by decide +kernel
theorem dX12_write__193 : decode cX12_write_ 193 = .ok (.iadd, 1) := by decide +kernel
theorem dX12_write__194 : decode cX12_write_ 194 = .ok (.putfield 184, 3) := by decide +kernel
theorem dX12_write__197 : decode cX12_write_ 197 = .ok (.aload_n 0, 1) := by decide +kernel
theorem dX12_write__198 : decode cX12_write_ 198 = .ok (.dup, 1) := by decide +kernel
theorem dX12_write__199 : decode cX12_write_ 199 = .ok (.getfield 244, 3) := by decide +kernel
theorem dX12_write__202 : decode cX12_write_ 202 = .ok (.iconst 1, 1) := by decide +kernel
theorem dX12_write__203 : decode cX12_write_ 203 = .ok (.iadd, 1) := by decide +kernel
theorem dX12_write__204 : decode cX12_write_ 204 = .ok (.putfield 244, 3) := by decide +kernel
theorem dX12_write__207 : decode cX12_write_ 207 = .ok (.return_, 1) := by decide +kernel
theorem dX12_go_0 : decode cX12_go 0 = .ok (.aload_n 0, 1) := by decide +kernel
theorem dX12_go_1 : decode cX12_go 1 = .ok (.invokevirtual 247, 3) := by decide +kernel
