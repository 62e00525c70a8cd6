theorem dX12_feed_39 : decode cX12_feed 39 = .ok (.invokevirtual 439, 3) := by decide +kernel
theorem dX12_feed_42 : decode cX12_feed 42 = .ok (.aload_n 0, 1) := by decide +kernel
theorem dX12_feed_43 : decode cX12_feed 43 = .ok (.getfield 436, 3) := by decide +kernel
theorem dX12_feed_46 : decode cX12_feed 46 = .ok (.ireturn, 1) := by decide +kernel
theorem dX12_field_0 : decode cX12_field 0 = .ok (.aload_n 0, 1) := by decide +kernel
theorem dX12_field_1 : decode cX12_field 1 = .ok (.iload_n 1, 1) := by decide +kernel
theorem dX12_field_2 : decode cX12_field 2 = .ok (.invokevirtual 433, 3) := by decide +kernel
theorem dX12_field_5 : decode cX12_field 5 = .ok (.ifCond .eq 28, 3) := by decide +kernel
theorem dX12_field_33 : decode cX12_field 33 = .ok (.iconst (-1), 1) := by decide +kernel
theorem dX12_field_34 : decode cX12_field 34 = .ok (.ireturn, 1) := by decide +kernel
theorem dX12_hide_0 : decode cX12_hide 0 = .ok (.aload_n 0, 1) := by decide +kernel
theorem dX12_hide_1 : decode cX12_hide 1 = .ok (.iload_n 1, 1) := by decide +kernel
theorem dX12_hide_2 : decode cX12_hide 2 = .ok (.invokevirtual 433, 3) := by decide +kernel
theorem dX12_hide_5 : decode cX12_hide 5 = .ok (.ifCond .eq 24, 3) := by decide +kernel
theorem dX12_hide_29 : decode cX12_hide 29 = .ok (.iconst 0, 1) := by decide +kernel
theorem dX12_hide_30 : decode cX12_hide 30 = .ok (.ireturn, 1) := by decide +kernel
theorem dX12_ice_0 : decode cX12_ice 0 = .ok (.iload_n 1, 1) := by decide +kernel
theorem dX12_ice_1 : decode cX12_ice 1 = .ok (.iconst 4, 1) := by decide +kernel
theorem dX12_ice_2 : decode cX12_ice 2 = .ok (.bipush 12, 2) := by decide +kernel
theorem dX12_ice_4 : decode cX12_ice 4 = .ok (.invokestatic 371, 3) := by decide +kernel
theorem dX12_ice_7 : decode cX12_ice 7 = .ok (.ifCond .eq 27, 3) := by decide +kernel
theorem dX12_ice_10 : decode cX12_ice 10 = .ok (.iload_n 2, 1) := by decide +kernel
theorem dX12_ice_11 : decode cX12_ice 11 = .ok (.iconst 4, 1) := by decide +kernel
theorem dX12_ice_12 : decode cX12_ice 12 = .ok (.bipush 12, 2) := by decide +kernel
theorem dX12_ice_14 : decode cX12_ice 14 = .ok (.invokestatic 371, 3) := by decide +kernel
theorem dX12_ice_17 : decode cX12_ice 17 = .ok (.ifCond .eq 17, 3) := by decide +kernel
theorem dX12_ice_20 : decode cX12_ice 20 = .ok (.aload_n 0, 1) := by decide +kernel
theorem dX12_ice_21 : decode cX12_ice 21 = .ok (.getfield 375, 3) := by decide +kernel
theorem dX12_ice_24 : decode cX12_ice 24 = .ok (.ifCond .gt 10, 3) := by decide +kernel
theorem dX12_ice_27 : decode cX12_ice 27 = .ok (.aload_n 0, 1) := by decide +kernel
theorem dX12_ice_28 : decode cX12_ice 28 = .ok (.getfield 378, 3) := by decide +kernel
theorem dX12_ice_31 : decode cX12_ice 31 = .ok (.ifCond .le 5, 3) := by decide +kernel
theorem dX12_ice_34 : decode cX12_ice 34 = .ok (.iconst 0, 1) := by decide +kernel
theorem dX12_ice_35 : decode cX12_ice 35 = .ok (.ireturn, 1) := by decide +kernel
theorem dX12_ice_36 : decode cX12_ice 36 = .ok (.aload_n 0, 1) := by decide +kernel
theorem dX12_ice_37 : decode cX12_ice 37 = .ok (.iload_n 1, 1) := by decide +kernel
theorem dX12_ice_38 : decode cX12_ice 38 = .ok (.iload_n 2, 1) := by decide +kernel
theorem dX12_ice_39 : decode cX12_ice 39 = .ok (.invokevirtual 361, 3) := by decide +kernel
theorem dX12_ice_42 : decode cX12_ice 42 = .ok (.iconst 1, 1) := by decide +kernel
theorem dX12_ice_43 : decode cX12_ice 43 = .ok (.ireturn, 1) := by decide +kernel
theorem dX12_in_0 : decode cX12_in 0 = .ok (.iload_n 0, 1) := by decide +kernel
theorem dX12_in_1 : decode cX12_in 1 = .ok (.iload_n 1, 1) := by decide +kernel
theorem dX12_in_2 : decode cX12_in 2 = .ok (.if_icmp .lt 12, 3) := by decide +kernel
theorem dX12_in_5 : decode cX12_in 5 = .ok (.iload_n 0, 1) := by decide +kernel
theorem dX12_in_6 : decode cX12_in 6 = .ok (.iload_n 2, 1) := by decide +kernel
theorem dX12_in_7 : decode cX12_in 7 = .ok (.if_icmp .gt 7, 3) := by decide +kernel
theorem dX12_in_10 : decode cX12_in 10 = .ok (.iconst 1, 1) := by decide +kernel
theorem dX12_in_11 : decode cX12_in 11 = .ok (.goto 4, 3) := by decide +kernel
theorem dX12_in_14 : decode cX12_in 14 = .ok (.iconst 0, 1) := by decide +kernel
theorem dX12_in_15 : decode cX12_in 15 = .ok (.ireturn, 1) := by decide +kernel
theorem dX12_init_0 : decode cX12_init 0 = .ok (.aload_n 0, 1) := by decide +kernel
theorem dX12_init_1 : decode cX12_init 1 = .ok (.invokespecial 1, 3) := by decide +kernel
theorem dX12_init_4 : decode cX12_init 4 = .ok (.aload_n 0, 1) := by decide +kernel
theorem dX12_init_5 : decode cX12_init 5 = .ok (.bipush 120, 2) := by decide +kernel
theorem dX12_init_7 : decode cX12_init 7 = .ok (.putfield 7, 3) := by decide +kernel
theorem dX12_init_10 : decode cX12_init 10 = .ok (.aload_n 0, 1) := by decide +kernel
theorem dX12_init_11 : decode cX12_init 11 = .ok (.sipush 239, 3) := by decide +kernel
theorem dX12_init_14 : decode cX12_init 14 = .ok (.putfield 13, 3) := by decide +kernel
theorem dX12_init_17 : decode cX12_init 17 = .ok (.aload_n 0, 1) := by decide +kernel
theorem dX12_init_18 : decode cX12_init 18 = .ok (.sipush 144, 3) := by decide +kernel
theorem dX12_init_21 : decode cX12_init 21 = .ok (.newarray .int, 2) := by decide +kernel
theorem dX12_init_23 : decode cX12_init 23 = .ok (.putfield 16, 3) := by decide +kernel
theorem dX12_init_26 : decode cX12_init 26 = .ok (.aload_n 0, 1) := by decide +kernel
theorem dX12_init_27 : decode cX12_init 27 = .ok (.sipush 144, 3) := by decide +kernel
theorem dX12_init_30 : decode cX12_init 30 = .ok (.newarray .int, 2) := by decide +kernel
theorem dX12_init_32 : decode cX12_init 32 = .ok (.putfield 20, 3) := by decide +kernel
theorem dX12_init_35 : decode cX12_init 35 = .ok (.aload_n 0, 1) := by decide +kernel
theorem dX12_init_36 : decode cX12_init 36 = .ok (.sipush 144, 3) := by decide +kernel
theorem dX12_init_39 : decode cX12_init 39 = .ok (.newarray .int, 2) := by decide +kernel
theorem dX12_init_41 : decode cX12_init 41 = .ok (.putfield 23, 3) := by decide +kernel
theorem dX12_init_44 : decode cX12_init 44 = .ok (.aload_n 0, 1) := by decide +kernel
theorem dX12_init_45 : decode cX12_init 45 = .ok (.sipush 144, 3) := by decide +kernel
theorem dX12_init_48 : decode cX12_init 48 = .ok (.newarray .int, 2) := by decide +kernel
theorem dX12_init_50 : decode cX12_init 50 = .ok (.putfield 26, 3) := by decide +kernel
theorem dX12_init_53 : decode cX12_init 53 = .ok (.aload_n 0, 1) := by decide +kernel
theorem dX12_init_54 : decode cX12_init 54 = .ok (.bipush 9, 2) := by decide +kernel
theorem dX12_init_56 : decode cX12_init 56 = .ok (.newarray .int, 2) := by decide +kernel
theorem dX12_init_58 : decode cX12_init 58 = .ok (.putfield 29, 3) := by decide +kernel
theorem dX12_init_61 : decode cX12_init 61 = .ok (.aload_n 0, 1) := by decide +kernel
theorem dX12_init_62 : decode cX12_init 62 = .ok (.bipush 9, 2) := by decide +kernel
theorem dX12_init_64 : decode cX12_init 64 = .ok (.newarray .int, 2) := by decide +kernel
theorem dX12_init_66 : decode cX12_init 66 = .ok (.putfield 32, 3) := by decide +kernel
theorem dX12_init_69 : decode cX12_init 69 = .ok (.aload_n 0, 1) := by decide +kernel
theorem dX12_init_70 : decode cX12_init 70 = .ok (.bipush 60, 2) := by decide +kernel
theorem dX12_init_72 : decode cX12_init 72 = .ok (.newarray .int, 2) := by decide +kernel
theorem dX12_init_74 : decode cX12_init 74 = .ok (.putfield 35, 3) := by decide +kernel
theorem dX12_init_77 : decode cX12_init 77 = .ok (.aload_n 0, 1) := by decide +kernel
theorem dX12_init_78 : decode cX12_init 78 = .ok (.bipush 60, 2) := by decide +kernel
theorem dX12_init_80 : decode cX12_init 80 = .ok (.newarray .int, 2) := by decide +kernel
theorem dX12_init_82 : decode cX12_init 82 = .ok (.putfield 38, 3) := by decide +kernel
theorem dX12_init_85 : decode cX12_init 85 = .ok (.aload_n 0, 1) := by decide +kernel
theorem dX12_init_86 : decode cX12_init 86 = .ok (.bipush 60, 2) := by decide +kernel
theorem dX12_init_88 : decode cX12_init 88 = .ok (.newarray .int, 2) := by decide +kernel
theorem dX12_init_90 : decode cX12_init 90 = .ok (.putfield 41, 3) := by decide +kernel
theorem dX12_init_93 : decode cX12_init 93 = .ok (.aload_n 0, 1) := by decide +kernel
theorem dX12_init_94 : decode cX12_init 94 = .ok (.bipush 60, 2) := by decide +kernel
theorem dX12_init_96 : decode cX12_init 96 = .ok (.newarray .int, 2) := by decide +kernel
theorem dX12_init_98 : decode cX12_init 98 = .ok (.putfield 44, 3) := by decide +kernel
theorem dX12_init_101 : decode cX12_init 101 = .ok (.aload_n 0, 1) := by decide +kernel
theorem dX12_init_102 : decode cX12_init 102 = .ok (.bipush 60, 2) := by decide +kernel
theorem dX12_init_104 : decode cX12_init 104 = .ok (.newarray .int, 2) := by decide +kernel
theorem dX12_init_106 : decode cX12_init 106 = .ok (.putfield 47, 3) := by decide +kernel
theorem dX12_init_109 : decode cX12_init 109 = .ok (.aload_n 0, 1) := by decide +kernel
theorem dX12_init_110 : decode cX12_init 110 = .ok (.bipush 60, 2) := by decide +kernel
theorem dX12_init_112 : decode cX12_init 112 = .ok (.newarray .int, 2) := by decide +kernel
theorem dX12_init_114 : decode cX12_init 114 = .ok (.putfield 50, 3) := by decide +kernel
theorem dX12_init_117 : decode cX12_init 117 = .ok (.aload_n 0, 1) := by decide +kernel
theorem dX12_init_118 : decode cX12_init 118 = .ok (.bipush 60, 2) := by decide +kernel
theorem dX12_init_120 : decode cX12_init 120 = .ok (.newarray .int, 2) := by decide +kernel
theorem dX12_init_122 : decode cX12_init 122 = .ok (.putfield 53, 3) := by decide +kernel
theorem dX12_init_125 : decode cX12_init 125 = .ok (.aload_n 0, 1) := by decide +kernel
theorem dX12_init_126 : decode cX12_init 126 = .ok (.bipush 60, 2) := by decide +kernel
theorem dX12_init_128 : decode cX12_init 128 = .ok (.newarray .int, 2) := by decide +kernel
theorem dX12_init_130 : decode cX12_init 130 = .ok (.putfield 56, 3) := by decide +kernel
theorem dX12_init_133 : decode cX12_init 133 = .ok (.aload_n 0, 1) := by decide +kernel
theorem dX12_init_134 : decode cX12_init 134 = .ok (.bipush 60, 2) := by decide +kernel
theorem dX12_init_136 : decode cX12_init 136 = .ok (.newarray .int, 2) := by decide +kernel
theorem dX12_init_138 : decode cX12_init 138 = .ok (.putfield 59, 3) := by decide +kernel
theorem dX12_init_141 : decode cX12_init 141 = .ok (.aload_n 0, 1) := by decide +kernel
theorem dX12_init_142 : decode cX12_init 142 = .ok (.bipush 60, 2) := by decide +kernel
theorem dX12_init_144 : decode cX12_init 144 = .ok (.newarray .int, 2) := by decide +kernel
theorem dX12_init_146 : decode cX12_init 146 = .ok (.putfield 62, 3) := by decide +kernel
theorem dX12_init_149 : decode cX12_init 149 = .ok (.aload_n 0, 1) := by decide +kernel
theorem dX12_init_150 : decode cX12_init 150 = .ok (.sipush 240, 3) := by decide +kernel
theorem dX12_init_153 : decode cX12_init 153 = .ok (.newarray .int, 2) := by decide +kernel
theorem dX12_init_155 : decode cX12_init 155 = .ok (.putfield 65, 3) := by decide +kernel
theorem dX12_init_158 : decode cX12_init 158 = .ok (.aload_n 0, 1) := by decide +kernel
theorem dX12_init_159 : decode cX12_init 159 = .ok (.bipush 60, 2) := by decide +kernel
theorem dX12_init_161 : decode cX12_init 161 = .ok (.newarray .int, 2) := by decide +kernel
theorem dX12_init_163 : decode cX12_init 163 = .ok (.putfield 68, 3) := by decide +kernel
theorem dX12_init_166 : decode cX12_init 166 = .ok (.aload_n 0, 1) := by decide +kernel
theorem dX12_init_167 : decode cX12_init 167 = .ok (.bipush 60, 2) := by decide +kernel
theorem dX12_init_169 : decode cX12_init 169 = .ok (.newarray .int, 2) := by decide +kernel
theorem dX12_init_171 : decode cX12_init 171 = .ok (.putfield 71, 3) := by decide +kernel
theorem dX12_init_174 : decode cX12_init 174 = .ok (.aload_n 0, 1) := by decide +kernel
theorem dX12_init_175 : decode cX12_init 175 = .ok (.sipush 600, 3) := by decide +kernel
theorem dX12_init_178 : decode cX12_init 178 = .ok (.newarray .int, 2) := by decide +kernel
theorem dX12_init_180 : decode cX12_init 180 = .ok (.putfield 74, 3) := by decide +kernel
theorem dX12_init_183 : decode cX12_init 183 = .ok (.aload_n 0, 1) := by decide +kernel
theorem dX12_init_184 : decode cX12_init 184 = .ok (.sipush 600, 3) := by decide +kernel
theorem dX12_init_187 : decode cX12_init 187 = .ok (.newarray .int, 2) := by decide +kernel
theorem dX12_init_189 : decode cX12_init 189 = .ok (.putfield 77, 3) := by decide +kernel
theorem dX12_init_192 : decode cX12_init 192 = .ok (.aload_n 0, 1) := by decide +kernel
theorem dX12_init_193 : decode cX12_init 193 = .ok (.bipush 60, 2) := by decide +kernel
theorem dX12_init_195 : decode cX12_init 195 = .ok (.newarray .boolean, 2) := by decide +kernel
theorem dX12_init_197 : decode cX12_init 197 = .ok (.putfield 80, 3) := by decide +kernel
theorem dX12_init_200 : decode cX12_init 200 = .ok (.aload_n 0, 1) := by decide +kernel
theorem dX12_init_201 : decode cX12_init 201 = .ok (.sipush 400, 3) := by decide +kernel
theorem dX12_init_204 : decode cX12_init 204 = .ok (.newarray .byte, 2) := by decide +kernel
theorem dX12_init_206 : decode cX12_init 206 = .ok (.putfield 84, 3) := by decide +kernel
theorem dX12_init_209 : decode cX12_init 209 = .ok (.aload_n 0, 1) := by decide +kernel
theorem dX12_init_210 : decode cX12_init 210 = .ok (.sipush 220, 3) := by decide +kernel
theorem dX12_init_213 : decode cX12_init 213 = .ok (.newarray .int, 2) := by decide +kernel
theorem dX12_init_215 : decode cX12_init 215 = .ok (.putfield 88, 3) := by decide +kernel
theorem dX12_init_218 : decode cX12_init 218 = .ok (.aload_n 0, 1) := by decide +kernel
theorem dX12_init_219 : decode cX12_init 219 = .ok (.sipush 220, 3) := by decide +kernel
theorem dX12_init_222 : decode cX12_init 222 = .ok (.newarray .int, 2) := by decide +kernel
theorem dX12_init_224 : decode cX12_init 224 = .ok (.putfield 91, 3) := by decide +kernel
theorem dX12_init_227 : decode cX12_init 227 = .ok (.aload_n 0, 1) := by decide +kernel
theorem dX12_init_228 : decode cX12_init 228 = .ok (.bipush 12, 2) := by decide +kernel
theorem dX12_init_230 : decode cX12_init 230 = .ok (.newarray .int, 2) := by decide +kernel
theorem dX12_init_232 : decode cX12_init 232 = .ok (.putfield 94, 3) := by decide +kernel
theorem dX12_init_235 : decode cX12_init 235 = .ok (.aload_n 0, 1) := by decide +kernel
theorem dX12_init_236 : decode cX12_init 236 = .ok (.bipush 12, 2) := by decide +kernel
theorem dX12_init_238 : decode cX12_init 238 = .ok (.newarray .int, 2) := by decide +kernel
theorem dX12_init_240 : decode cX12_init 240 = .ok (.putfield 97, 3) := by decide +kernel
theorem dX12_init_243 : decode cX12_init 243 = .ok (.aload_n 0, 1) := by decide +kernel
theorem dX12_init_244 : decode cX12_init 244 = .ok (.bipush 12, 2) := by decide +kernel
theorem dX12_init_246 : decode cX12_init 246 = .ok (.newarray .int, 2) := by decide +kernel
theorem dX12_init_248 : decode cX12_init 248 = .ok (.putfield 100, 3) := by decide +kernel
theorem dX12_init_251 : decode cX12_init 251 = .ok (.aload_n 0, 1) := by decide +kernel
theorem dX12_init_252 : decode cX12_init 252 = .ok (.bipush 12, 2) := by decide +kernel
theorem dX12_init_254 : decode cX12_init 254 = .ok (.newarray .int, 2) := by decide +kernel
theorem dX12_init_256 : decode cX12_init 256 = .ok (.putfield 103, 3) := by decide +kernel
theorem dX12_init_259 : decode cX12_init 259 = .ok (.aload_n 0, 1) := by decide +kernel
theorem dX12_init_260 : decode cX12_init 260 = .ok (.bipush 12, 2) := by decide +kernel
theorem dX12_init_262 : decode cX12_init 262 = .ok (.newarray .int, 2) := by decide +kernel
theorem dX12_init_264 : decode cX12_init 264 = .ok (.putfield 106, 3) := by decide +kernel
theorem dX12_init_267 : decode cX12_init 267 = .ok (.aload_n 0, 1) := by decide +kernel
theorem dX12_init_268 : decode cX12_init 268 = .ok (.bipush 12, 2) := by decide +kernel
theorem dX12_init_270 : decode cX12_init 270 = .ok (.newarray .int, 2) := by decide +kernel
theorem dX12_init_272 : decode cX12_init 272 = .ok (.putfield 109, 3) := by decide +kernel
theorem dX12_init_275 : decode cX12_init 275 = .ok (.aload_n 0, 1) := by decide +kernel
theorem dX12_init_276 : decode cX12_init 276 = .ok (.sipush 4400, 3) := by decide +kernel
theorem dX12_init_279 : decode cX12_init 279 = .ok (.newarray .int, 2) := by decide +kernel
theorem dX12_init_281 : decode cX12_init 281 = .ok (.putfield 112, 3) := by decide +kernel
theorem dX12_init_284 : decode cX12_init 284 = .ok (.aload_n 0, 1) := by decide +kernel
theorem dX12_init_285 : decode cX12_init 285 = .ok (.bipush 20, 2) := by decide +kernel
theorem dX12_init_287 : decode cX12_init 287 = .ok (.newarray .int, 2) := by decide +kernel
theorem dX12_init_289 : decode cX12_init 289 = .ok (.putfield 115, 3) := by decide +kernel
theorem dX12_init_292 : decode cX12_init 292 = .ok (.aload_n 0, 1) := by decide +kernel
theorem dX12_init_293 : decode cX12_init 293 = .ok (.bipush 20, 2) := by decide +kernel
theorem dX12_init_295 : decode cX12_init 295 = .ok (.newarray .int, 2) := by decide +kernel
theorem dX12_init_297 : decode cX12_init 297 = .ok (.putfield 118, 3) := by decide +kernel
theorem dX12_init_300 : decode cX12_init 300 = .ok (.aload_n 0, 1) := by decide +kernel
theorem dX12_init_301 : decode cX12_init 301 = .ok (.bipush 20, 2) := by decide +kernel
theorem dX12_init_303 : decode cX12_init 303 = .ok (.newarray .int, 2) := by decide +kernel
theorem dX12_init_305 : decode cX12_init 305 = .ok (.putfield 121, 3) := by decide +kernel
theorem dX12_init_308 : decode cX12_init 308 = .ok (.aload_n 0, 1) := by decide +kernel
theorem dX12_init_309 : decode cX12_init 309 = .ok (.sipush 240, 3) := by decide +kernel
theorem dX12_init_312 : decode cX12_init 312 = .ok (.newarray .int, 2) := by decide +kernel
theorem dX12_init_314 : decode cX12_init 314 = .ok (.putfield 124, 3) := by decide +kernel
theorem dX12_init_317 : decode cX12_init 317 = .ok (.aload_n 0, 1) := by decide +kernel
theorem dX12_init_318 : decode cX12_init 318 = .ok (.sipush 240, 3) := by decide +kernel
theorem dX12_init_321 : decode cX12_init 321 = .ok (.newarray .int, 2) := by decide +kernel
theorem dX12_init_323 : decode cX12_init 323 = .ok (.putfield 127, 3) := by decide +kernel
theorem dX12_init_326 : decode cX12_init 326 = .ok (.aload_n 0, 1) := by decide +kernel
theorem dX12_init_327 : decode cX12_init 327 = .ok (.sipush 240, 3) := by decide +kernel
theorem dX12_init_330 : decode cX12_init 330 = .ok (.newarray .int, 2) := by decide +kernel
theorem dX12_init_332 : decode cX12_init 332 = .ok (.putfield 130, 3) := by decide +kernel
theorem dX12_init_335 : decode cX12_init 335 = .ok (.aload_n 0, 1) := by decide +kernel
theorem dX12_init_336 : decode cX12_init 336 = .ok (.sipush 240, 3) := by decide +kernel
theorem dX12_init_339 : decode cX12_init 339 = .ok (.newarray .int, 2) := by decide +kernel
theorem dX12_init_341 : decode cX12_init 341 = .ok (.putfield 133, 3) := by decide +kernel
theorem dX12_init_344 : decode cX12_init 344 = .ok (.aload_n 0, 1) := by decide +kernel
theorem dX12_init_345 : decode cX12_init 345 = .ok (.sipush 240, 3) := by decide +kernel
theorem dX12_init_348 : decode cX12_init 348 = .ok (.newarray .int, 2) := by decide +kernel
theorem dX12_init_350 : decode cX12_init 350 = .ok (.putfield 136, 3) := by decide +kernel
theorem dX12_init_353 : decode cX12_init 353 = .ok (.aload_n 0, 1) := by decide +kernel
theorem dX12_init_354 : decode cX12_init 354 = .ok (.sipush 240, 3) := by decide +kernel
theorem dX12_init_357 : decode cX12_init 357 = .ok (.newarray .int, 2) := by decide +kernel
theorem dX12_init_359 : decode cX12_init 359 = .ok (.putfield 139, 3) := by decide +kernel
theorem dX12_init_362 : decode cX12_init 362 = .ok (.aload_n 0, 1) := by decide +kernel
theorem dX12_init_363 : decode cX12_init 363 = .ok (.sipush 180, 3) := by decide +kernel
theorem dX12_init_366 : decode cX12_init 366 = .ok (.newarray .int, 2) := by decide +kernel
theorem dX12_init_368 : decode cX12_init 368 = .ok (.putfield 142, 3) := by decide +kernel
theorem dX12_init_371 : decode cX12_init 371 = .ok (.aload_n 0, 1) := by decide +kernel
theorem dX12_init_372 : decode cX12_init 372 = .ok (.sipush 2200, 3) := by decide +kernel
theorem dX12_init_375 : decode cX12_init 375 = .ok (.newarray .int, 2) := by decide +kernel
theorem dX12_init_377 : decode cX12_init 377 = .ok (.putfield 145, 3) := by decide +kernel
theorem dX12_init_380 : decode cX12_init 380 = .ok (.aload_n 0, 1) := by decide +kernel
theorem dX12_init_381 : decode cX12_init 381 = .ok (.bipush 20, 2) := by decide +kernel
theorem dX12_init_383 : decode cX12_init 383 = .ok (.newarray .int, 2) := by decide +kernel
theorem dX12_init_385 : decode cX12_init 385 = .ok (.putfield 148, 3) := by decide +kernel
theorem dX12_init_388 : decode cX12_init 388 = .ok (.aload_n 0, 1) := by decide +kernel
theorem dX12_init_389 : decode cX12_init 389 = .ok (.bipush 20, 2) := by decide +kernel
theorem dX12_init_391 : decode cX12_init 391 = .ok (.newarray .int, 2) := by decide +kernel
theorem dX12_init_393 : decode cX12_init 393 = .ok (.putfield 151, 3) := by decide +kernel
theorem dX12_init_396 : decode cX12_init 396 = .ok (.aload_n 0, 1) := by decide +kernel
theorem dX12_init_397 : decode cX12_init 397 = .ok (.bipush 20, 2) := by decide +kernel
theorem dX12_init_399 : decode cX12_init 399 = .ok (.newarray .int, 2) := by decide +kernel
theorem dX12_init_401 : decode cX12_init 401 = .ok (.putfield 154, 3) := by decide +kernel
theorem dX12_init_404 : decode cX12_init 404 = .ok (.aload_n 0, 1) := by decide +kernel
theorem dX12_init_405 : decode cX12_init 405 = .ok (.bipush 20, 2) := by decide +kernel
theorem dX12_init_407 : decode cX12_init 407 = .ok (.newarray .boolean, 2) := by decide +kernel
theorem dX12_init_409 : decode cX12_init 409 = .ok (.putfield 157, 3) := by decide +kernel
theorem dX12_init_412 : decode cX12_init 412 = .ok (.aload_n 0, 1) := by decide +kernel
theorem dX12_init_413 : decode cX12_init 413 = .ok (.sipush 240, 3) := by decide +kernel
theorem dX12_init_416 : decode cX12_init 416 = .ok (.newarray .boolean, 2) := by decide +kernel
theorem dX12_init_418 : decode cX12_init 418 = .ok (.putfield 160, 3) := by decide +kernel
theorem dX12_init_421 : decode cX12_init 421 = .ok (.aload_n 0, 1) := by decide +kernel
theorem dX12_init_422 : decode cX12_init 422 = .ok (.bipush 100, 2) := by decide +kernel
theorem dX12_init_424 : decode cX12_init 424 = .ok (.newarray .int, 2) := by decide +kernel
theorem dX12_init_426 : decode cX12_init 426 = .ok (.putfield 163, 3) := by decide +kernel
theorem dX12_init_429 : decode cX12_init 429 = .ok (.aload_n 0, 1) := by decide +kernel
theorem dX12_init_430 : decode cX12_init 430 = .ok (.bipush 100, 2) := by decide +kernel
theorem dX12_init_432 : decode cX12_init 432 = .ok (.newarray .int, 2) := by decide +kernel
theorem dX12_init_434 : decode cX12_init 434 = .ok (.putfield 166, 3) := by decide +kernel
theorem dX12_init_437 : decode cX12_init 437 = .ok (.aload_n 0, 1) := by decide +kernel
theorem dX12_init_438 : decode cX12_init 438 = .ok (.bipush 100, 2) := by decide +kernel
theorem dX12_init_440 : decode cX12_init 440 = .ok (.newarray .int, 2) := by decide +kernel
theorem dX12_init_442 : decode cX12_init 442 = .ok (.putfield 169, 3) := by decide +kernel
theorem dX12_init_445 : decode cX12_init 445 = .ok (.aload_n 0, 1) := by decide +kernel
theorem dX12_init_446 : decode cX12_init 446 = .ok (.bipush 100, 2) := by decide +kernel
theorem dX12_init_448 : decode cX12_init 448 = .ok (.newarray .int, 2) := by decide +kernel
theorem dX12_init_450 : decode cX12_init 450 = .ok (.putfield 172, 3) := by decide +kernel
theorem dX12_init_453 : decode cX12_init 453 = .ok (.aload_n 0, 1) := by decide +kernel
theorem dX12_init_454 : decode cX12_init 454 = .ok (.bipush 100, 2) := by decide +kernel
theorem dX12_init_456 : decode cX12_init 456 = .ok (.newarray .int, 2) := by decide +kernel
theorem dX12_init_458 : decode cX12_init 458 = .ok (.putfield 175, 3) := by decide +kernel
theorem dX12_init_461 : decode cX12_init 461 = .ok (.aload_n 0, 1) := by decide +kernel
theorem dX12_init_462 : decode cX12_init 462 = .ok (.bipush 100, 2) := by decide +kernel
theorem dX12_init_464 : decode cX12_init 464 = .ok (.newarray .int, 2) := by decide +kernel
theorem dX12_init_466 : decode cX12_init 466 = .ok (.putfield 178, 3) := by decide +kernel
theorem dX12_init_469 : decode cX12_init 469 = .ok (.aload_n 0, 1) := by decide +kernel
theorem dX12_init_470 : decode cX12_init 470 = .ok (.bipush 100, 2) := by decide +kernel
theorem dX12_init_472 : decode cX12_init 472 = .ok (.newarray .int, 2) := by decide +kernel
theorem dX12_init_474 : decode cX12_init 474 = .ok (.putfield 181, 3) := by decide +kernel
theorem dX12_init_477 : decode cX12_init 477 = .ok (.aload_n 0, 1) := by decide +kernel
theorem dX12_init_478 : decode cX12_init 478 = .ok (.bipush 100, 2) := by decide +kernel
theorem dX12_init_480 : decode cX12_init 480 = .ok (.newarray .int, 2) := by decide +kernel
theorem dX12_init_482 : decode cX12_init 482 = .ok (.putfield 184, 3) := by decide +kernel
theorem dX12_init_485 : decode cX12_init 485 = .ok (.aload_n 0, 1) := by decide +kernel
theorem dX12_init_486 : decode cX12_init 486 = .ok (.bipush 100, 2) := by decide +kernel
theorem dX12_init_488 : decode cX12_init 488 = .ok (.newarray .int, 2) := by decide +kernel
theorem dX12_init_490 : decode cX12_init 490 = .ok (.putfield 187, 3) := by decide +kernel
theorem dX12_init_493 : decode cX12_init 493 = .ok (.aload_n 0, 1) := by decide +kernel
theorem dX12_init_494 : decode cX12_init 494 = .ok (.bipush 100, 2) := by decide +kernel
theorem dX12_init_496 : decode cX12_init 496 = .ok (.newarray .int, 2) := by decide +kernel
theorem dX12_init_498 : decode cX12_init 498 = .ok (.putfield 190, 3) := by decide +kernel
theorem dX12_init_501 : decode cX12_init 501 = .ok (.aload_n 0, 1) := by decide +kernel
theorem dX12_init_502 : decode cX12_init 502 = .ok (.bipush 100, 2) := by decide +kernel
theorem dX12_init_504 : decode cX12_init 504 = .ok (.newarray .int, 2) := by decide +kernel
theorem dX12_init_506 : decode cX12_init 506 = .ok (.putfield 193, 3) := by decide +kernel
theorem dX12_init_509 : decode cX12_init 509 = .ok (.aload_n 0, 1) := by decide +kernel
theorem dX12_init_510 : decode cX12_init 510 = .ok (.bipush 100, 2) := by decide +kernel
theorem dX12_init_512 : decode cX12_init 512 = .ok (.newarray .int, 2) := by decide +kernel
theorem dX12_init_514 : decode cX12_init 514 = .ok (.putfield 196, 3) := by decide +kernel
theorem dX12_init_517 : decode cX12_init 517 = .ok (.aload_n 0, 1) := by decide +kernel
theorem dX12_init_518 : decode cX12_init 518 = .ok (.bipush 100, 2) := by decide +kernel
theorem dX12_init_520 : decode cX12_init 520 = .ok (.newarray .int, 2) := by decide +kernel
theorem dX12_init_522 : decode cX12_init 522 = .ok (.putfield 199, 3) := by decide +kernel
theorem dX12_init_525 : decode cX12_init 525 = .ok (.aload_n 0, 1) := by decide +kernel
theorem dX12_init_526 : decode cX12_init 526 = .ok (.sipush 900, 3) := by decide +kernel
theorem dX12_init_529 : decode cX12_init 529 = .ok (.newarray .int, 2) := by decide +kernel
theorem dX12_init_531 : decode cX12_init 531 = .ok (.putfield 202, 3) := by decide +kernel
theorem dX12_init_534 : decode cX12_init 534 = .ok (.aload_n 0, 1) := by decide +kernel
theorem dX12_init_535 : decode cX12_init 535 = .ok (.sipush 220, 3) := by decide +kernel
theorem dX12_init_538 : decode cX12_init 538 = .ok (.newarray .int, 2) := by decide +kernel
theorem dX12_init_540 : decode cX12_init 540 = .ok (.putfield 205, 3) := by decide +kernel
theorem dX12_init_543 : decode cX12_init 543 = .ok (.aload_n 0, 1) := by decide +kernel
theorem dX12_init_544 : decode cX12_init 544 = .ok (.bipush 10, 2) := by decide +kernel
theorem dX12_init_546 : decode cX12_init 546 = .ok (.newarray .int, 2) := by decide +kernel
theorem dX12_init_548 : decode cX12_init 548 = .ok (.putfield 208, 3) := by decide +kernel
theorem dX12_init_551 : decode cX12_init 551 = .ok (.aload_n 0, 1) := by decide +kernel
theorem dX12_init_552 : decode cX12_init 552 = .ok (.bipush 10, 2) := by decide +kernel
theorem dX12_init_554 : decode cX12_init 554 = .ok (.newarray .int, 2) := by decide +kernel
theorem dX12_init_556 : decode cX12_init 556 = .ok (.putfield 211, 3) := by decide +kernel
theorem dX12_init_559 : decode cX12_init 559 = .ok (.aload_n 0, 1) := by decide +kernel
theorem dX12_init_560 : decode cX12_init 560 = .ok (.bipush 10, 2) := by decide +kernel
theorem dX12_init_562 : decode cX12_init 562 = .ok (.newarray .int, 2) := by decide +kernel
theorem dX12_init_564 : decode cX12_init 564 = .ok (.putfield 214, 3) := by decide +kernel
theorem dX12_init_567 : decode cX12_init 567 = .ok (.aload_n 0, 1) := by decide +kernel
theorem dX12_init_568 : decode cX12_init 568 = .ok (.bipush 10, 2) := by decide +kernel
theorem dX12_init_570 : decode cX12_init 570 = .ok (.newarray .int, 2) := by decide +kernel
theorem dX12_init_572 : decode cX12_init 572 = .ok (.putfield 217, 3) := by decide +kernel
theorem dX12_init_575 : decode cX12_init 575 = .ok (.aload_n 0, 1) := by decide +kernel
theorem dX12_init_576 : decode cX12_init 576 = .ok (.bipush 10, 2) := by decide +kernel
theorem dX12_init_578 : decode cX12_init 578 = .ok (.newarray .int, 2) := by decide +kernel
theorem dX12_init_580 : decode cX12_init 580 = .ok (.putfield 220, 3) := by decide +kernel
theorem dX12_init_583 : decode cX12_init 583 = .ok (.aload_n 0, 1) := by decide +kernel
theorem dX12_init_584 : decode cX12_init 584 = .ok (.bipush 10, 2) := by decide +kernel
theorem dX12_init_586 : decode cX12_init 586 = .ok (.newarray .int, 2) := by decide +kernel
theorem dX12_init_588 : decode cX12_init 588 = .ok (.putfield 223, 3) := by decide +kernel
theorem dX12_init_591 : decode cX12_init 591 = .ok (.aload_n 0, 1) := by decide +kernel
theorem dX12_init_592 : decode cX12_init 592 = .ok (.bipush 10, 2) := by decide +kernel
theorem dX12_init_594 : decode cX12_init 594 = .ok (.newarray .int, 2) := by decide +kernel
theorem dX12_init_596 : decode cX12_init 596 = .ok (.putfield 226, 3) := by decide +kernel
theorem dX12_init_599 : decode cX12_init 599 = .ok (.aload_n 0, 1) := by decide +kernel
theorem dX12_init_600 : decode cX12_init 600 = .ok (.bipush 10, 2) := by decide +kernel
theorem dX12_init_602 : decode cX12_init 602 = .ok (.newarray .int, 2) := by decide +kernel
theorem dX12_init_604 : decode cX12_init 604 = .ok (.putfield 229, 3) := by decide +kernel
theorem dX12_init_607 : decode cX12_init 607 = .ok (.aload_n 0, 1) := by decide +kernel
theorem dX12_init_608 : decode cX12_init 608 = .ok (.bipush 10, 2) := by decide +kernel
theorem dX12_init_610 : decode cX12_init 610 = .ok (.newarray .int, 2) := by decide +kernel
theorem dX12_init_612 : decode cX12_init 612 = .ok (.putfield 232, 3) := by decide +kernel
theorem dX12_init_615 : decode cX12_init 615 = .ok (.aload_n 0, 1) := by decide +kernel
theorem dX12_init_616 : decode cX12_init 616 = .ok (.bipush 10, 2) := by decide +kernel
theorem dX12_init_618 : decode cX12_init 618 = .ok (.newarray .int, 2) := by decide +kernel
theorem dX12_init_620 : decode cX12_init 620 = .ok (.putfield 235, 3) := by decide +kernel
theorem dX12_init_623 : decode cX12_init 623 = .ok (.aload_n 0, 1) := by decide +kernel
theorem dX12_init_624 : decode cX12_init 624 = .ok (.bipush 10, 2) := by decide +kernel
theorem dX12_init_626 : decode cX12_init 626 = .ok (.newarray .int, 2) := by decide +kernel
theorem dX12_init_628 : decode cX12_init 628 = .ok (.putfield 238, 3) := by decide +kernel
theorem dX12_init_631 : decode cX12_init 631 = .ok (.aload_n 0, 1) := by decide +kernel
theorem dX12_init_632 : decode cX12_init 632 = .ok (.bipush 48, 2) := by decide +kernel
theorem dX12_init_634 : decode cX12_init 634 = .ok (.newarray .int, 2) := by decide +kernel
theorem dX12_init_636 : decode cX12_init 636 = .ok (.putfield 241, 3) := by decide +kernel
theorem dX12_init_639 : decode cX12_init 639 = .ok (.aload_n 0, 1) := by decide +kernel
theorem dX12_init_640 : decode cX12_init 640 = .ok (.iconst 4, 1) := by decide +kernel
theorem dX12_init_641 : decode cX12_init 641 = .ok (.newarray .int, 2) := by decide +kernel
theorem dX12_init_643 : decode cX12_init 643 = .ok (.putfield 244, 3) := by decide +kernel
theorem dX12_init_646 : decode cX12_init 646 = .ok (.aload_n 0, 1) := by decide +kernel
theorem dX12_init_647 : decode cX12_init 647 = .ok (.bipush 40, 2) := by decide +kernel
theorem dX12_init_649 : decode cX12_init 649 = .ok (.newarray .int, 2) := by decide +kernel
theorem dX12_init_651 : decode cX12_init 651 = .ok (.putfield 247, 3) := by decide +kernel
theorem dX12_init_654 : decode cX12_init 654 = .ok (.aload_n 0, 1) := by decide +kernel
theorem dX12_init_655 : decode cX12_init 655 = .ok (.bipush 40, 2) := by decide +kernel
theorem dX12_init_657 : decode cX12_init 657 = .ok (.newarray .int, 2) := by decide +kernel
theorem dX12_init_659 : decode cX12_init 659 = .ok (.putfield 250, 3) := by decide +kernel
theorem dX12_init_662 : decode cX12_init 662 = .ok (.aload_n 0, 1) := by decide +kernel
theorem dX12_init_663 : decode cX12_init 663 = .ok (.bipush 40, 2) := by decide +kernel
theorem dX12_init_665 : decode cX12_init 665 = .ok (.newarray .int, 2) := by decide +kernel
theorem dX12_init_667 : decode cX12_init 667 = .ok (.putfield 253, 3) := by decide +kernel
theorem dX12_init_670 : decode cX12_init 670 = .ok (.aload_n 0, 1) := by decide +kernel
theorem dX12_init_671 : decode cX12_init 671 = .ok (.bipush 40, 2) := by decide +kernel
theorem dX12_init_673 : decode cX12_init 673 = .ok (.newarray .int, 2) := by decide +kernel
theorem dX12_init_675 : decode cX12_init 675 = .ok (.putfield 256, 3) := by decide +kernel
theorem dX12_init_678 : decode cX12_init 678 = .ok (.aload_n 0, 1) := by decide +kernel
theorem dX12_init_679 : decode cX12_init 679 = .ok (.bipush 40, 2) := by decide +kernel
theorem dX12_init_681 : decode cX12_init 681 = .ok (.newarray .boolean, 2) := by decide +kernel
theorem dX12_init_683 : decode cX12_init 683 = .ok (.putfield 259, 3) := by decide +kernel
theorem dX12_init_686 : decode cX12_init 686 = .ok (.aload_n 0, 1) := by decide +kernel
theorem dX12_init_687 : decode cX12_init 687 = .ok (.bipush 60, 2) := by decide +kernel
theorem dX12_init_689 : decode cX12_init 689 = .ok (.newarray .int, 2) := by decide +kernel
theorem dX12_init_691 : decode cX12_init 691 = .ok (.putfield 262, 3) := by decide +kernel
theorem dX12_init_694 : decode cX12_init 694 = .ok (.aload_n 0, 1) := by decide +kernel
theorem dX12_init_695 : decode cX12_init 695 = .ok (.bipush 60, 2) := by decide +kernel
theorem dX12_init_697 : decode cX12_init 697 = .ok (.newarray .int, 2) := by decide +kernel
theorem dX12_init_699 : decode cX12_init 699 = .ok (.putfield 265, 3) := by decide +kernel
theorem dX12_init_702 : decode cX12_init 702 = .ok (.aload_n 0, 1) := by decide +kernel
theorem dX12_init_703 : decode cX12_init 703 = .ok (.bipush 60, 2) := by decide +kernel
theorem dX12_init_705 : decode cX12_init 705 = .ok (.newarray .int, 2) := by decide +kernel
theorem dX12_init_707 : decode cX12_init 707 = .ok (.putfield 268, 3) := by decide +kernel
theorem dX12_init_710 : decode cX12_init 710 = .ok (.aload_n 0, 1) := by decide +kernel
theorem dX12_init_711 : decode cX12_init 711 = .ok (.bipush 60, 2) := by decide +kernel
theorem dX12_init_713 : decode cX12_init 713 = .ok (.newarray .int, 2) := by decide +kernel
theorem dX12_init_715 : decode cX12_init 715 = .ok (.putfield 271, 3) := by decide +kernel
theorem dX12_init_718 : decode cX12_init 718 = .ok (.aload_n 0, 1) := by decide +kernel
theorem dX12_init_719 : decode cX12_init 719 = .ok (.bipush 60, 2) := by decide +kernel
theorem dX12_init_721 : decode cX12_init 721 = .ok (.newarray .int, 2) := by decide +kernel
theorem dX12_init_723 : decode cX12_init 723 = .ok (.putfield 274, 3) := by decide +kernel
theorem dX12_init_726 : decode cX12_init 726 = .ok (.aload_n 0, 1) := by decide +kernel
theorem dX12_init_727 : decode cX12_init 727 = .ok (.sipush 144, 3) := by decide +kernel
theorem dX12_init_730 : decode cX12_init 730 = .ok (.newarray .int, 2) := by decide +kernel
theorem dX12_init_732 : decode cX12_init 732 = .ok (.putfield 277, 3) := by decide +kernel
theorem dX12_init_735 : decode cX12_init 735 = .ok (.aload_n 0, 1) := by decide +kernel
theorem dX12_init_736 : decode cX12_init 736 = .ok (.bipush 100, 2) := by decide +kernel
theorem dX12_init_738 : decode cX12_init 738 = .ok (.putfield 280, 3) := by decide +kernel
theorem dX12_init_741 : decode cX12_init 741 = .ok (.aload_n 0, 1) := by decide +kernel
theorem dX12_init_742 : decode cX12_init 742 = .ok (.bipush 60, 2) := by decide +kernel
theorem dX12_init_744 : decode cX12_init 744 = .ok (.newarray .int, 2) := by decide +kernel
theorem dX12_init_746 : decode cX12_init 746 = .ok (.putfield 283, 3) := by decide +kernel
theorem dX12_init_749 : decode cX12_init 749 = .ok (.aload_n 0, 1) := by decide +kernel
theorem dX12_init_750 : decode cX12_init 750 = .ok (.sipush 480, 3) := by decide +kernel
theorem dX12_init_753 : decode cX12_init 753 = .ok (.newarray .int, 2) := by decide +kernel
theorem dX12_init_755 : decode cX12_init 755 = .ok (.putfield 286, 3) := by decide +kernel
theorem dX12_init_758 : decode cX12_init 758 = .ok (.aload_n 0, 1) := by decide +kernel
theorem dX12_init_759 : decode cX12_init 759 = .ok (.sipush 480, 3) := by decide +kernel
theorem dX12_init_762 : decode cX12_init 762 = .ok (.newarray .int, 2) := by decide +kernel
theorem dX12_init_764 : decode cX12_init 764 = .ok (.putfield 289, 3) := by decide +kernel
theorem dX12_init_767 : decode cX12_init 767 = .ok (.aload_n 0, 1) := by decide +kernel
theorem dX12_init_768 : decode cX12_init 768 = .ok (.bipush 10, 2) := by decide +kernel
theorem dX12_init_770 : decode cX12_init 770 = .ok (.newarray .int, 2) := by decide +kernel
theorem dX12_init_772 : decode cX12_init 772 = .ok (.putfield 292, 3) := by decide +kernel
theorem dX12_init_775 : decode cX12_init 775 = .ok (.aload_n 0, 1) := by decide +kernel
theorem dX12_init_776 : decode cX12_init 776 = .ok (.bipush 10, 2) := by decide +kernel
theorem dX12_init_778 : decode cX12_init 778 = .ok (.newarray .int, 2) := by decide +kernel
theorem dX12_init_780 : decode cX12_init 780 = .ok (.putfield 295, 3) := by decide +kernel
theorem dX12_init_783 : decode cX12_init 783 = .ok (.aload_n 0, 1) := by decide +kernel
theorem dX12_init_784 : decode cX12_init 784 = .ok (.bipush 10, 2) := by decide +kernel
theorem dX12_init_786 : decode cX12_init 786 = .ok (.newarray .int, 2) := by decide +kernel
theorem dX12_init_788 : decode cX12_init 788 = .ok (.putfield 298, 3) := by decide +kernel
theorem dX12_init_791 : decode cX12_init 791 = .ok (.aload_n 0, 1) := by decide +kernel
theorem dX12_init_792 : decode cX12_init 792 = .ok (.bipush 10, 2) := by decide +kernel
theorem dX12_init_794 : decode cX12_init 794 = .ok (.newarray .int, 2) := by decide +kernel
theorem dX12_init_796 : decode cX12_init 796 = .ok (.putfield 301, 3) := by decide +kernel
theorem dX12_init_799 : decode cX12_init 799 = .ok (.aload_n 0, 1) := by decide +kernel
theorem dX12_init_800 : decode cX12_init 800 = .ok (.sipush 200, 3) := by decide +kernel
theorem dX12_init_803 : decode cX12_init 803 = .ok (.newarray .int, 2) := by decide +kernel
theorem dX12_init_805 : decode cX12_init 805 = .ok (.putfield 304, 3) := by decide +kernel
theorem dX12_init_808 : decode cX12_init 808 = .ok (.aload_n 0, 1) := by decide +kernel
theorem dX12_init_809 : decode cX12_init 809 = .ok (.sipush 200, 3) := by decide +kernel
theorem dX12_init_812 : decode cX12_init 812 = .ok (.newarray .int, 2) := by decide +kernel
theorem dX12_init_814 : decode cX12_init 814 = .ok (.putfield 307, 3) := by decide +kernel
theorem dX12_init_817 : decode cX12_init 817 = .ok (.aload_n 0, 1) := by decide +kernel
theorem dX12_init_818 : decode cX12_init 818 = .ok (.sipush 200, 3) := by decide +kernel
theorem dX12_init_821 : decode cX12_init 821 = .ok (.newarray .int, 2) := by decide +kernel
theorem dX12_init_823 : decode cX12_init 823 = .ok (.putfield 310, 3) := by decide +kernel
theorem dX12_init_826 : decode cX12_init 826 = .ok (.aload_n 0, 1) := by decide +kernel
theorem dX12_init_827 : decode cX12_init 827 = .ok (.sipush 200, 3) := by decide +kernel
theorem dX12_init_830 : decode cX12_init 830 = .ok (.newarray .int, 2) := by decide +kernel
theorem dX12_init_832 : decode cX12_init 832 = .ok (.putfield 313, 3) := by decide +kernel
theorem dX12_init_835 : decode cX12_init 835 = .ok (.aload_n 0, 1) := by decide +kernel
theorem dX12_init_836 : decode cX12_init 836 = .ok (.sipush 200, 3) := by decide +kernel
theorem dX12_init_839 : decode cX12_init 839 = .ok (.newarray .int, 2) := by decide +kernel
theorem dX12_init_841 : decode cX12_init 841 = .ok (.putfield 316, 3) := by decide +kernel
theorem dX12_init_844 : decode cX12_init 844 = .ok (.aload_n 0, 1) := by decide +kernel
theorem dX12_init_845 : decode cX12_init 845 = .ok (.bipush 7, 2) := by decide +kernel
theorem dX12_init_847 : decode cX12_init 847 = .ok (.newarray .int, 2) := by decide +kernel
theorem dX12_init_849 : decode cX12_init 849 = .ok (.putfield 319, 3) := by decide +kernel
theorem dX12_init_852 : decode cX12_init 852 = .ok (.aload_n 0, 1) := by decide +kernel
theorem dX12_init_853 : decode cX12_init 853 = .ok (.bipush 63, 2) := by decide +kernel
theorem dX12_init_855 : decode cX12_init 855 = .ok (.newarray .boolean, 2) := by decide +kernel
theorem dX12_init_857 : decode cX12_init 857 = .ok (.putfield 322, 3) := by decide +kernel
theorem dX12_init_860 : decode cX12_init 860 = .ok (.aload_n 0, 1) := by decide +kernel
theorem dX12_init_861 : decode cX12_init 861 = .ok (.sipush 441, 3) := by decide +kernel
theorem dX12_init_864 : decode cX12_init 864 = .ok (.newarray .boolean, 2) := by decide +kernel
theorem dX12_init_866 : decode cX12_init 866 = .ok (.putfield 325, 3) := by decide +kernel
theorem dX12_init_869 : decode cX12_init 869 = .ok (.aload_n 0, 1) := by decide +kernel
theorem dX12_init_870 : decode cX12_init 870 = .ok (.bipush 8, 2) := by decide +kernel
theorem dX12_init_872 : decode cX12_init 872 = .ok (.newarray .int, 2) := by decide +kernel
theorem dX12_init_874 : decode cX12_init 874 = .ok (.putfield 328, 3) := by decide +kernel
theorem dX12_init_877 : decode cX12_init 877 = .ok (.aload_n 0, 1) := by decide +kernel
theorem dX12_init_878 : decode cX12_init 878 = .ok (.bipush 8, 2) := by decide +kernel
theorem dX12_init_880 : decode cX12_init 880 = .ok (.newarray .int, 2) := by decide +kernel
theorem dX12_init_882 : decode cX12_init 882 = .ok (.putfield 331, 3) := by decide +kernel
theorem dX12_init_885 : decode cX12_init 885 = .ok (.aload_n 0, 1) := by decide +kernel
theorem dX12_init_886 : decode cX12_init 886 = .ok (.bipush 24, 2) := by decide +kernel
theorem dX12_init_888 : decode cX12_init 888 = .ok (.newarray .int, 2) := by decide +kernel
theorem dX12_init_890 : decode cX12_init 890 = .ok (.putfield 334, 3) := by decide +kernel
theorem dX12_init_893 : decode cX12_init 893 = .ok (.aload_n 0, 1) := by decide +kernel
theorem dX12_init_894 : decode cX12_init 894 = .ok (.bipush 24, 2) := by decide +kernel
theorem dX12_init_896 : decode cX12_init 896 = .ok (.newarray .int, 2) := by decide +kernel
theorem dX12_init_898 : decode cX12_init 898 = .ok (.putfield 337, 3) := by decide +kernel
theorem dX12_init_901 : decode cX12_init 901 = .ok (.aload_n 0, 1) := by decide +kernel
theorem dX12_init_902 : decode cX12_init 902 = .ok (.bipush 8, 2) := by decide +kernel
theorem dX12_init_904 : decode cX12_init 904 = .ok (.newarray .int, 2) := by decide +kernel
theorem dX12_init_906 : decode cX12_init 906 = .ok (.putfield 340, 3) := by decide +kernel
theorem dX12_init_909 : decode cX12_init 909 = .ok (.aload_n 0, 1) := by decide +kernel
theorem dX12_init_910 : decode cX12_init 910 = .ok (.bipush 8, 2) := by decide +kernel
theorem dX12_init_912 : decode cX12_init 912 = .ok (.newarray .int, 2) := by decide +kernel
theorem dX12_init_914 : decode cX12_init 914 = .ok (.putfield 343, 3) := by decide +kernel
theorem dX12_init_917 : decode cX12_init 917 = .ok (.aload_n 0, 1) := by decide +kernel
theorem dX12_init_918 : decode cX12_init 918 = .ok (.sipush 200, 3) := by decide +kernel
theorem dX12_init_921 : decode cX12_init 921 = .ok (.newarray .int, 2) := by decide +kernel
theorem dX12_init_923 : decode cX12_init 923 = .ok (.putfield 346, 3) := by decide +kernel
theorem dX12_init_926 : decode cX12_init 926 = .ok (.aload_n 0, 1) := by decide +kernel
theorem dX12_init_927 : decode cX12_init 927 = .ok (.sipush 200, 3) := by decide +kernel
theorem dX12_init_930 : decode cX12_init 930 = .ok (.newarray .int, 2) := by decide +kernel
theorem dX12_init_932 : decode cX12_init 932 = .ok (.putfield 349, 3) := by decide +kernel
theorem dX12_init_935 : decode cX12_init 935 = .ok (.aload_n 0, 1) := by decide +kernel
theorem dX12_init_936 : decode cX12_init 936 = .ok (.sipush 200, 3) := by decide +kernel
theorem dX12_init_939 : decode cX12_init 939 = .ok (.newarray .int, 2) := by decide +kernel
theorem dX12_init_941 : decode cX12_init 941 = .ok (.putfield 352, 3) := by decide +kernel
theorem dX12_init_944 : decode cX12_init 944 = .ok (.aload_n 0, 1) := by decide +kernel
theorem dX12_init_945 : decode cX12_init 945 = .ok (.sipush 200, 3) := by decide +kernel
theorem dX12_init_948 : decode cX12_init 948 = .ok (.newarray .int, 2) := by decide +kernel
theorem dX12_init_950 : decode cX12_init 950 = .ok (.putfield 355, 3) := by decide +kernel
theorem dX12_init_953 : decode cX12_init 953 = .ok (.aload_n 0, 1) := by decide +kernel
theorem dX12_init_954 : decode cX12_init 954 = .ok (.sipush 200, 3) := by decide +kernel
theorem dX12_init_957 : decode cX12_init 957 = .ok (.newarray .boolean, 2) := by decide +kernel
theorem dX12_init_959 : decode cX12_init 959 = .ok (.putfield 358, 3) := by decide +kernel
theorem dX12_init_962 : decode cX12_init 962 = .ok (.aload_n 0, 1) := by decide +kernel
theorem dX12_init_963 : decode cX12_init 963 = .ok (.bipush 8, 2) := by decide +kernel
theorem dX12_init_965 : decode cX12_init 965 = .ok (.bipush 8, 2) := by decide +kernel
theorem dX12_init_967 : decode cX12_init 967 = .ok (.invokevirtual 361, 3) := by decide +kernel
theorem dX12_init_970 : decode cX12_init 970 = .ok (.iconst 0, 1) := by decide +kernel
theorem dX12_init_971 : decode cX12_init 971 = .ok (.istore_n 1, 1) := by decide +kernel
theorem dX12_init_972 : decode cX12_init 972 = .ok (.iload_n 1, 1) := by decide +kernel
theorem dX12_init_973 : decode cX12_init 973 = .ok (.iconst 4, 1) := by decide +kernel
theorem dX12_init_974 : decode cX12_init 974 = .ok (.if_icmp .ge 17, 3) := by decide +kernel
theorem dX12_init_977 : decode cX12_init 977 = .ok (.aload_n 0, 1) := by decide +kernel
theorem dX12_init_978 : decode cX12_init 978 = .ok (.getfield 244, 3) := by decide +kernel
theorem dX12_init_981 : decode cX12_init 981 = .ok (.iload_n 1, 1) := by decide +kernel
theorem dX12_init_982 : decode cX12_init 982 = .ok (.bipush 10, 2) := by decide +kernel
theorem dX12_init_984 : decode cX12_init 984 = .ok (.iastore, 1) := by decide +kernel
theorem dX12_init_985 : decode cX12_init 985 = .ok (.iinc 1 1, 3) := by decide +kernel
theorem dX12_init_988 : decode cX12_init 988 = .ok (.goto (-16), 3) := by decide +kernel
theorem dX12_init_991 : decode cX12_init 991 = .ok (.iconst 0, 1) := by decide +kernel
theorem dX12_init_992 : decode cX12_init 992 = .ok (.istore_n 1, 1) := by decide +kernel
theorem dX12_init_993 : decode cX12_init 993 = .ok (.iload_n 1, 1) := by decide +kernel
theorem dX12_init_994 : decode cX12_init 994 = .ok (.bipush 10, 2) := by decide +kernel
theorem dX12_init_996 : decode cX12_init 996 = .ok (.if_icmp .ge 17, 3) := by decide +kernel
theorem dX12_init_999 : decode cX12_init 999 = .ok (.aload_n 0, 1) := by decide +kernel
theorem dX12_init_1000 : decode cX12_init 1000 = .ok (.getfield 301, 3) := by decide +kernel
theorem dX12_init_1003 : decode cX12_init 1003 = .ok (.iload_n 1, 1) := by decide +kernel
theorem dX12_init_1004 : decode cX12_init 1004 = .ok (.bipush 50, 2) := by decide +kernel
theorem dX12_init_1006 : decode cX12_init 1006 = .ok (.iastore, 1) := by decide +kernel
theorem dX12_init_1007 : decode cX12_init 1007 = .ok (.iinc 1 1, 3) := by decide +kernel
theorem dX12_init_1010 : decode cX12_init 1010 = .ok (.goto (-17), 3) := by decide +kernel
theorem dX12_init_1013 : decode cX12_init 1013 = .ok (.iconst 0, 1) := by decide +kernel
theorem dX12_init_1014 : decode cX12_init 1014 = .ok (.istore_n 1, 1) := by decide +kernel
theorem dX12_init_1015 : decode cX12_init 1015 = .ok (.iload_n 1, 1) := by decide +kernel
theorem dX12_init_1016 : decode cX12_init 1016 = .ok (.bipush 24, 2) := by decide +kernel
theorem dX12_init_1018 : decode cX12_init 1018 = .ok (.if_icmp .ge 18, 3) := by decide +kernel
theorem dX12_init_1021 : decode cX12_init 1021 = .ok (.aload_n 0, 1) := by decide +kernel
theorem dX12_init_1022 : decode cX12_init 1022 = .ok (.getfield 337, 3) := by decide +kernel
theorem dX12_init_1025 : decode cX12_init 1025 = .ok (.iload_n 1, 1) := by decide +kernel
theorem dX12_init_1026 : decode cX12_init 1026 = .ok (.sipush 359, 3) := by decide +kernel
theorem dX12_init_1029 : decode cX12_init 1029 = .ok (.iastore, 1) := by decide +kernel
theorem dX12_init_1030 : decode cX12_init 1030 = .ok (.iinc 1 1, 3) := by decide +kernel
theorem dX12_init_1033 : decode cX12_init 1033 = .ok (.goto (-18), 3) := by decide +kernel
theorem dX12_init_1036 : decode cX12_init 1036 = .ok (.iconst 0, 1) := by decide +kernel
theorem dX12_init_1037 : decode cX12_init 1037 = .ok (.istore_n 1, 1) := by decide +kernel
theorem dX12_init_1038 : decode cX12_init 1038 = .ok (.iload_n 1, 1) := by decide +kernel
theorem dX12_init_1039 : decode cX12_init 1039 = .ok (.sipush 600, 3) := by decide +kernel
theorem dX12_init_1042 : decode cX12_init 1042 = .ok (.if_icmp .ge 16, 3) := by decide +kernel
theorem dX12_init_1045 : decode cX12_init 1045 = .ok (.aload_n 0, 1) := by decide +kernel
theorem dX12_init_1046 : decode cX12_init 1046 = .ok (.getfield 77, 3) := by decide +kernel
theorem dX12_init_1049 : decode cX12_init 1049 = .ok (.iload_n 1, 1) := by decide +kernel
theorem dX12_init_1050 : decode cX12_init 1050 = .ok (.iconst (-1), 1) := by decide +kernel
theorem dX12_init_1051 : decode cX12_init 1051 = .ok (.iastore, 1) := by decide +kernel
theorem dX12_init_1052 : decode cX12_init 1052 = .ok (.iinc 1 1, 3) := by decide +kernel
theorem dX12_init_1055 : decode cX12_init 1055 = .ok (.goto (-17), 3) := by decide +kernel
theorem dX12_init_1058 : decode cX12_init 1058 = .ok (.return_, 1) := by decide +kernel
theorem dX12_isCell_0 : decode cX12_isCell 0 = .ok (.iload_n 1, 1) := by decide +kernel
theorem dX12_isCell_1 : decode cX12_isCell 1 = .ok (.ifCond .lt 20, 3) := by decide +kernel
theorem dX12_isCell_4 : decode cX12_isCell 4 = .ok (.iload_n 1, 1) := by decide +kernel
theorem dX12_isCell_5 : decode cX12_isCell 5 = .ok (.aload_n 0, 1) := by decide +kernel
theorem dX12_isCell_6 : decode cX12_isCell 6 = .ok (.getfield 365, 3) := by decide +kernel
theorem dX12_isCell_9 : decode cX12_isCell 9 = .ok (.aload_n 0, 1) := by decide +kernel
theorem dX12_isCell_10 : decode cX12_isCell 10 = .ok (.getfield 368, 3) := by decide +kernel
theorem dX12_isCell_13 : decode cX12_isCell 13 = .ok (.imul, 1) := by decide +kernel
theorem dX12_isCell_14 : decode cX12_isCell 14 = .ok (.if_icmp .ge 7, 3) := by decide +kernel
theorem dX12_isCell_17 : decode cX12_isCell 17 = .ok (.iconst 1, 1) := by decide +kernel
theorem dX12_isCell_18 : decode cX12_isCell 18 = .ok (.goto 4, 3) := by decide +kernel
theorem dX12_isCell_21 : decode cX12_isCell 21 = .ok (.iconst 0, 1) := by decide +kernel
theorem dX12_isCell_22 : decode cX12_isCell 22 = .ok (.ireturn, 1) := by decide +kernel
theorem dX12_isClause_0 : decode cX12_isClause 0 = .ok (.aload_n 0, 1) := by decide +kernel
theorem dX12_isClause_1 : decode cX12_isClause 1 = .ok (.iload_n 1, 1) := by decide +kernel
theorem dX12_isClause_2 : decode cX12_isClause 2 = .ok (.invokevirtual 541, 3) := by decide +kernel
theorem dX12_isClause_5 : decode cX12_isClause 5 = .ok (.ifCond .eq 21, 3) := by decide +kernel
theorem dX12_isClause_26 : decode cX12_isClause 26 = .ok (.iconst 0, 1) := by decide +kernel
theorem dX12_isClause_27 : decode cX12_isClause 27 = .ok (.ireturn, 1) := by decide +kernel
theorem dX12_isDay_0 : decode cX12_isDay 0 = .ok (.iload_n 0, 1) := by decide +kernel
theorem dX12_isDay_1 : decode cX12_isDay 1 = .ok (.ifCond .lt 14, 3) := by decide +kernel
theorem dX12_isDay_4 : decode cX12_isDay 4 = .ok (.iload_n 0, 1) := by decide +kernel
theorem dX12_isDay_5 : decode cX12_isDay 5 = .ok (.sipush 3599, 3) := by decide +kernel
theorem dX12_isDay_8 : decode cX12_isDay 8 = .ok (.if_icmp .gt 7, 3) := by decide +kernel
theorem dX12_isDay_11 : decode cX12_isDay 11 = .ok (.iconst 1, 1) := by decide +kernel
theorem dX12_isDay_12 : decode cX12_isDay 12 = .ok (.goto 4, 3) := by decide +kernel
theorem dX12_isDay_15 : decode cX12_isDay 15 = .ok (.iconst 0, 1) := by decide +kernel
theorem dX12_isDay_16 : decode cX12_isDay 16 = .ok (.ireturn, 1) := by decide +kernel
theorem dX12_isParty_0 : decode cX12_isParty 0 = .ok (.iload_n 1, 1) := by decide +kernel
theorem dX12_isParty_1 : decode cX12_isParty 1 = .ok (.ifCond .lt 15, 3) := by decide +kernel
theorem dX12_isParty_4 : decode cX12_isParty 4 = .ok (.iload_n 1, 1) := by decide +kernel
theorem dX12_isParty_5 : decode cX12_isParty 5 = .ok (.aload_n 0, 1) := by decide +kernel
theorem dX12_isParty_6 : decode cX12_isParty 6 = .ok (.getfield 393, 3) := by decide +kernel
theorem dX12_isParty_9 : decode cX12_isParty 9 = .ok (.if_icmp .ge 7, 3) := by decide +kernel
theorem dX12_isParty_16 : decode cX12_isParty 16 = .ok (.iconst 0, 1) := by decide +kernel
theorem dX12_isParty_17 : decode cX12_isParty 17 = .ok (.ireturn, 1) := by decide +kernel
theorem dX12_isPlace_0 : decode cX12_isPlace 0 = .ok (.iload_n 1, 1) := by decide +kernel
theorem dX12_isPlace_1 : decode cX12_isPlace 1 = .ok (.ifCond .lt 25, 3) := by decide +kernel
theorem dX12_isPlace_4 : decode cX12_isPlace 4 = .ok (.iload_n 1, 1) := by decide +kernel
theorem dX12_isPlace_5 : decode cX12_isPlace 5 = .ok (.aload_n 0, 1) := by decide +kernel
theorem dX12_isPlace_6 : decode cX12_isPlace 6 = .ok (.getfield 375, 3) := by decide +kernel
theorem dX12_isPlace_9 : decode cX12_isPlace 9 = .ok (.if_icmp .ge 17, 3) := by decide +kernel
theorem dX12_isPlace_26 : decode cX12_isPlace 26 = .ok (.iconst 0, 1) := by decide +kernel
theorem dX12_isPlace_27 : decode cX12_isPlace 27 = .ok (.ireturn, 1) := by decide +kernel
theorem dX12_isRectangle_0 : decode cX12_isRectangle 0 = .ok (.aload_n 0, 1) := by decide +kernel
theorem dX12_isRectangle_1 : decode cX12_isRectangle 1 = .ok (.iload_n 1, 1) := by decide +kernel
theorem dX12_isRectangle_2 : decode cX12_isRectangle 2 = .ok (.invokevirtual 381, 3) := by decide +kernel
theorem dX12_isRectangle_5 : decode cX12_isRectangle 5 = .ok (.ifCond .eq 45, 3) := by decide +kernel
theorem dX12_isRectangle_8 : decode cX12_isRectangle 8 = .ok (.aload_n 0, 1) := by decide +kernel
theorem dX12_isRectangle_9 : decode cX12_isRectangle 9 = .ok (.iload_n 2, 1) := by decide +kernel
theorem dX12_isRectangle_10 : decode cX12_isRectangle 10 = .ok (.invokevirtual 381, 3) := by decide +kernel
theorem dX12_isRectangle_13 : decode cX12_isRectangle 13 = .ok (.ifCond .eq 37, 3) := by decide +kernel
theorem dX12_isRectangle_16 : decode cX12_isRectangle 16 = .ok (.iload_n 1, 1) := by decide +kernel
theorem dX12_isRectangle_17 : decode cX12_isRectangle 17 = .ok (.aload_n 0, 1) := by decide +kernel
theorem dX12_isRectangle_18 : decode cX12_isRectangle 18 = .ok (.getfield 365, 3) := by decide +kernel
theorem dX12_isRectangle_21 : decode cX12_isRectangle 21 = .ok (.irem, 1) := by decide +kernel
theorem dX12_isRectangle_22 : decode cX12_isRectangle 22 = .ok (.iload_n 2, 1) := by decide +kernel
theorem dX12_isRectangle_23 : decode cX12_isRectangle 23 = .ok (.aload_n 0, 1) := by decide +kernel
theorem dX12_isRectangle_24 : decode cX12_isRectangle 24 = .ok (.getfield 365, 3) := by decide +kernel
theorem dX12_isRectangle_27 : decode cX12_isRectangle 27 = .ok (.irem, 1) := by decide +kernel
theorem dX12_isRectangle_28 : decode cX12_isRectangle 28 = .ok (.if_icmp .gt 22, 3) := by decide +kernel
theorem dX12_isRectangle_31 : decode cX12_isRectangle 31 = .ok (.iload_n 1, 1) := by decide +kernel
theorem dX12_isRectangle_32 : decode cX12_isRectangle 32 = .ok (.aload_n 0, 1) := by decide +kernel
theorem dX12_isRectangle_33 : decode cX12_isRectangle 33 = .ok (.getfield 365, 3) := by decide +kernel
theorem dX12_isRectangle_36 : decode cX12_isRectangle 36 = .ok (.idiv, 1) := by decide +kernel
theorem dX12_isRectangle_37 : decode cX12_isRectangle 37 = .ok (.iload_n 2, 1) := by decide +kernel
theorem dX12_isRectangle_38 : decode cX12_isRectangle 38 = .ok (.aload_n 0, 1) := by decide +kernel
theorem dX12_isRectangle_39 : decode cX12_isRectangle 39 = .ok (.getfield 365, 3) := by decide +kernel
theorem dX12_isRectangle_42 : decode cX12_isRectangle 42 = .ok (.idiv, 1) := by decide +kernel
theorem dX12_isRectangle_43 : decode cX12_isRectangle 43 = .ok (.if_icmp .gt 7, 3) := by decide +kernel
theorem dX12_isRectangle_46 : decode cX12_isRectangle 46 = .ok (.iconst 1, 1) := by decide +kernel
theorem dX12_isRectangle_47 : decode cX12_isRectangle 47 = .ok (.goto 4, 3) := by decide +kernel
theorem dX12_isRectangle_50 : decode cX12_isRectangle 50 = .ok (.iconst 0, 1) := by decide +kernel
theorem dX12_isRectangle_51 : decode cX12_isRectangle 51 = .ok (.ireturn, 1) := by decide +kernel
theorem dX12_isSea_0 : decode cX12_isSea 0 = .ok (.iload_n 0, 1) := by decide +kernel
theorem dX12_isSea_1 : decode cX12_isSea 1 = .ok (.ifCond .lt 12, 3) := by decide +kernel
theorem dX12_isSea_4 : decode cX12_isSea 4 = .ok (.iload_n 0, 1) := by decide +kernel
theorem dX12_isSea_5 : decode cX12_isSea 5 = .ok (.iconst 4, 1) := by decide +kernel
theorem dX12_isSea_6 : decode cX12_isSea 6 = .ok (.if_icmp .ge 7, 3) := by decide +kernel
theorem dX12_isSea_9 : decode cX12_isSea 9 = .ok (.iconst 1, 1) := by decide +kernel
theorem dX12_isSea_10 : decode cX12_isSea 10 = .ok (.goto 4, 3) := by decide +kernel
theorem dX12_isSea_13 : decode cX12_isSea 13 = .ok (.iconst 0, 1) := by decide +kernel
theorem dX12_isSea_14 : decode cX12_isSea 14 = .ok (.ireturn, 1) := by decide +kernel
theorem dX12_isShip_0 : decode cX12_isShip 0 = .ok (.iload_n 1, 1) := by decide +kernel
theorem dX12_isShip_1 : decode cX12_isShip 1 = .ok (.ifCond .lt 15, 3) := by decide +kernel
theorem dX12_isShip_4 : decode cX12_isShip 4 = .ok (.iload_n 1, 1) := by decide +kernel
theorem dX12_isShip_5 : decode cX12_isShip 5 = .ok (.aload_n 0, 1) := by decide +kernel
theorem dX12_isShip_6 : decode cX12_isShip 6 = .ok (.getfield 612, 3) := by decide +kernel
theorem dX12_isShip_9 : decode cX12_isShip 9 = .ok (.if_icmp .ge 7, 3) := by decide +kernel
theorem dX12_isShip_16 : decode cX12_isShip 16 = .ok (.iconst 0, 1) := by decide +kernel
theorem dX12_isShip_17 : decode cX12_isShip 17 = .ok (.ireturn, 1) := by decide +kernel
theorem dX12_isStation_0 : decode cX12_isStation 0 = .ok (.aload_n 0, 1) := by decide +kernel
theorem dX12_isStation_1 : decode cX12_isStation 1 = .ok (.iload_n 1, 1) := by decide +kernel
theorem dX12_isStation_2 : decode cX12_isStation 2 = .ok (.iconst 1, 1) := by decide +kernel
theorem dX12_isStation_3 : decode cX12_isStation 3 = .ok (.invokevirtual 399, 3) := by decide +kernel
theorem dX12_isStation_6 : decode cX12_isStation 6 = .ok (.ireturn, 1) := by decide +kernel
theorem dX12_isText_0 : decode cX12_isText 0 = .ok (.iload_n 1, 1) := by decide +kernel
theorem dX12_isText_1 : decode cX12_isText 1 = .ok (.ifCond .lt 15, 3) := by decide +kernel
theorem dX12_isText_4 : decode cX12_isText 4 = .ok (.iload_n 1, 1) := by decide +kernel
theorem dX12_isText_5 : decode cX12_isText 5 = .ok (.aload_n 0, 1) := by decide +kernel
theorem dX12_isText_6 : decode cX12_isText 6 = .ok (.getfield 535, 3) := by decide +kernel
theorem dX12_isText_9 : decode cX12_isText 9 = .ok (.if_icmp .ge 7, 3) := by decide +kernel
theorem dX12_isText_16 : decode cX12_isText 16 = .ok (.iconst 0, 1) := by decide +kernel
theorem dX12_isText_17 : decode cX12_isText 17 = .ok (.ireturn, 1) := by decide +kernel
theorem dX12_isWord_0 : decode cX12_isWord 0 = .ok (.iload_n 1, 1) := by decide +kernel
theorem dX12_isWord_1 : decode cX12_isWord 1 = .ok (.ifCond .lt 15, 3) := by decide +kernel
theorem dX12_isWord_4 : decode cX12_isWord 4 = .ok (.iload_n 1, 1) := by decide +kernel
theorem dX12_isWord_5 : decode cX12_isWord 5 = .ok (.aload_n 0, 1) := by decide +kernel
theorem dX12_isWord_6 : decode cX12_isWord 6 = .ok (.getfield 718, 3) := by decide +kernel
theorem dX12_isWord_9 : decode cX12_isWord 9 = .ok (.if_icmp .ge 7, 3) := by decide +kernel
theorem dX12_isWord_16 : decode cX12_isWord 16 = .ok (.iconst 0, 1) := by decide +kernel
theorem dX12_isWord_17 : decode cX12_isWord 17 = .ok (.ireturn, 1) := by decide +kernel
theorem dX12_isWork_0 : decode cX12_isWork 0 = .ok (.iload_n 1, 1) := by decide +kernel
theorem dX12_isWork_1 : decode cX12_isWork 1 = .ok (.ifCond .lt 15, 3) := by decide +kernel
theorem dX12_isWork_4 : decode cX12_isWork 4 = .ok (.iload_n 1, 1) := by decide +kernel
theorem dX12_isWork_5 : decode cX12_isWork 5 = .ok (.aload_n 0, 1) := by decide +kernel
theorem dX12_isWork_6 : decode cX12_isWork 6 = .ok (.getfield 378, 3) := by decide +kernel
theorem dX12_isWork_9 : decode cX12_isWork 9 = .ok (.if_icmp .ge 7, 3) := by decide +kernel
theorem dX12_isWork_16 : decode cX12_isWork 16 = .ok (.iconst 0, 1) := by decide +kernel
theorem dX12_isWork_17 : decode cX12_isWork 17 = .ok (.ireturn, 1) := by decide +kernel
theorem dX12_known_0 : decode cX12_known 0 = .ok (.aload_n 0, 1) := by decide +kernel
theorem dX12_known_1 : decode cX12_known 1 = .ok (.iload_n 1, 1) := by decide +kernel
theorem dX12_known_2 : decode cX12_known 2 = .ok (.invokevirtual 403, 3) := by decide +kernel
theorem dX12_known_5 : decode cX12_known 5 = .ok (.ifCond .eq 17, 3) := by decide +kernel
theorem dX12_known_22 : decode cX12_known 22 = .ok (.ldc_w 764, 3) := by decide +kernel
theorem dX12_known_25 : decode cX12_known 25 = .ok (.ireturn, 1) := by decide +kernel
theorem dX12_look_0 : decode cX12_look 0 = .ok (.iload_n 1, 1) := by decide +kernel
theorem dX12_look_1 : decode cX12_look 1 = .ok (.ifCond .lt 11, 3) := by decide +kernel
theorem dX12_look_4 : decode cX12_look 4 = .ok (.iload_n 1, 1) := by decide +kernel
theorem dX12_look_5 : decode cX12_look 5 = .ok (.aload_n 0, 1) := by decide +kernel
theorem dX12_look_6 : decode cX12_look 6 = .ok (.getfield 375, 3) := by decide +kernel
theorem dX12_look_9 : decode cX12_look 9 = .ok (.if_icmp .lt 5, 3) := by decide +kernel
theorem dX12_look_12 : decode cX12_look 12 = .ok (.iconst (-1), 1) := by decide +kernel
theorem dX12_look_13 : decode cX12_look 13 = .ok (.ireturn, 1) := by decide +kernel
theorem dX12_loss_0 : decode cX12_loss 0 = .ok (.aload_n 0, 1) := by decide +kernel
theorem dX12_loss_1 : decode cX12_loss 1 = .ok (.iload_n 1, 1) := by decide +kernel
theorem dX12_loss_2 : decode cX12_loss 2 = .ok (.iconst 5, 1) := by decide +kernel
theorem dX12_loss_3 : decode cX12_loss 3 = .ok (.invokevirtual 399, 3) := by decide +kernel
theorem dX12_loss_6 : decode cX12_loss 6 = .ok (.ifCond .eq 46, 3) := by decide +kernel
theorem dX12_loss_52 : decode cX12_loss 52 = .ok (.ldc_w 663, 3) := by decide +kernel
theorem dX12_loss_55 : decode cX12_loss 55 = .ok (.ireturn, 1) := by decide +kernel
theorem dX12_may_0 : decode cX12_may 0 = .ok (.aload_n 0, 1) := by decide +kernel
theorem dX12_may_1 : decode cX12_may 1 = .ok (.iload_n 1, 1) := by decide +kernel
theorem dX12_may_2 : decode cX12_may 2 = .ok (.invokevirtual 566, 3) := by decide +kernel
theorem dX12_may_5 : decode cX12_may 5 = .ok (.ifCond .eq 20, 3) := by decide +kernel
theorem dX12_may_25 : decode cX12_may 25 = .ok (.iconst (-1), 1) := by decide +kernel
theorem dX12_may_26 : decode cX12_may 26 = .ok (.ireturn, 1) := by decide +kernel
theorem dX12_noise_0 : decode cX12_noise 0 = .ok (.aload_n 0, 1) := by decide +kernel
theorem dX12_noise_1 : decode cX12_noise 1 = .ok (.iload_n 1, 1) := by decide +kernel
theorem dX12_noise_2 : decode cX12_noise 2 = .ok (.iconst 5, 1) := by decide +kernel
theorem dX12_noise_3 : decode cX12_noise 3 = .ok (.invokevirtual 399, 3) := by decide +kernel
theorem dX12_noise_6 : decode cX12_noise 6 = .ok (.ifCond .eq 27, 3) := by decide +kernel
theorem dX12_noise_33 : decode cX12_noise 33 = .ok (.iconst (-1), 1) := by decide +kernel
theorem dX12_noise_34 : decode cX12_noise 34 = .ok (.ireturn, 1) := by decide +kernel
theorem dX12_number_0 : decode cX12_number 0 = .ok (.aload_n 0, 1) := by decide +kernel
theorem dX12_number_1 : decode cX12_number 1 = .ok (.iload_n 2, 1) := by decide +kernel
theorem dX12_number_2 : decode cX12_number 2 = .ok (.invokevirtual 406, 3) := by decide +kernel
theorem dX12_number_5 : decode cX12_number 5 = .ok (.ifCond .eq 10, 3) := by decide +kernel
theorem dX12_number_15 : decode cX12_number 15 = .ok (.iconst (-1), 1) := by decide +kernel
theorem dX12_number_16 : decode cX12_number 16 = .ok (.ireturn, 1) := by decide +kernel
theorem dX12_open_0 : decode cX12_open 0 = .ok (.iload_n 1, 1) := by decide +kernel
theorem dX12_open_1 : decode cX12_open 1 = .ok (.iconst 0, 1) := by decide +kernel
theorem dX12_open_2 : decode cX12_open 2 = .ok (.iconst 2, 1) := by decide +kernel
theorem dX12_open_3 : decode cX12_open 3 = .ok (.invokestatic 371, 3) := by decide +kernel
theorem dX12_open_6 : decode cX12_open 6 = .ok (.ifCond .eq 38, 3) := by decide +kernel
theorem dX12_open_9 : decode cX12_open 9 = .ok (.iload_n 2, 1) := by decide +kernel
theorem dX12_open_10 : decode cX12_open 10 = .ok (.ifCond .lt 34, 3) := by decide +kernel
theorem dX12_open_13 : decode cX12_open 13 = .ok (.iload_n 2, 1) := by decide +kernel
theorem dX12_open_14 : decode cX12_open 14 = .ok (.aload_n 0, 1) := by decide +kernel
theorem dX12_open_15 : decode cX12_open 15 = .ok (.getfield 736, 3) := by decide +kernel
theorem dX12_open_18 : decode cX12_open 18 = .ok (.if_icmp .ge 26, 3) := by decide +kernel
theorem dX12_open_44 : decode cX12_open 44 = .ok (.iconst 0, 1) := by decide +kernel
theorem dX12_open_45 : decode cX12_open 45 = .ok (.ireturn, 1) := by decide +kernel
theorem dX12_over_0 : decode cX12_over 0 = .ok (.iconst (-1), 1) := by decide +kernel
theorem dX12_over_1 : decode cX12_over 1 = .ok (.istore_n 1, 1) := by decide +kernel
theorem dX12_over_2 : decode cX12_over 2 = .ok (.iconst 0, 1) := by decide +kernel
theorem dX12_over_3 : decode cX12_over 3 = .ok (.istore_n 2, 1) := by decide +kernel
theorem dX12_over_4 : decode cX12_over 4 = .ok (.iload_n 2, 1) := by decide +kernel
theorem dX12_over_5 : decode cX12_over 5 = .ok (.aload_n 0, 1) := by decide +kernel
theorem dX12_over_6 : decode cX12_over 6 = .ok (.getfield 709, 3) := by decide +kernel
theorem dX12_over_9 : decode cX12_over 9 = .ok (.if_icmp .ge 190, 3) := by decide +kernel
theorem dX12_over_199 : decode cX12_over 199 = .ok (.iload_n 1, 1) := by decide +kernel
theorem dX12_over_200 : decode cX12_over 200 = .ok (.ireturn, 1) := by decide +kernel
theorem dX12_party_0 : decode cX12_party 0 = .ok (.aload_n 0, 1) := by decide +kernel
theorem dX12_party_1 : decode cX12_party 1 = .ok (.getfield 393, 3) := by decide +kernel
theorem dX12_party_4 : decode cX12_party 4 = .ok (.bipush 9, 2) := by decide +kernel
theorem dX12_party_6 : decode cX12_party 6 = .ok (.if_icmp .ne 5, 3) := by decide +kernel
theorem dX12_party_11 : decode cX12_party 11 = .ok (.aload_n 0, 1) := by decide +kernel
theorem dX12_party_12 : decode cX12_party 12 = .ok (.getfield 29, 3) := by decide +kernel
theorem dX12_party_15 : decode cX12_party 15 = .ok (.aload_n 0, 1) := by decide +kernel
theorem dX12_party_16 : decode cX12_party 16 = .ok (.getfield 393, 3) := by decide +kernel
theorem dX12_party_19 : decode cX12_party 19 = .ok (.iload_n 1, 1) := by decide +kernel
theorem dX12_party_20 : decode cX12_party 20 = .ok (.ifCond .eq 10, 3) := by decide +kernel
theorem dX12_party_23 : decode cX12_party 23 = .ok (.aload_n 0, 1) := by decide +kernel
theorem dX12_party_24 : decode cX12_party 24 = .ok (.getfield 396, 3) := by decide +kernel
theorem dX12_party_27 : decode cX12_party 27 = .ok (.goto 4, 3) := by decide +kernel
theorem dX12_party_30 : decode cX12_party 30 = .ok (.iconst (-1), 1) := by decide +kernel
theorem dX12_party_31 : decode cX12_party 31 = .ok (.iastore, 1) := by decide +kernel
theorem dX12_party_32 : decode cX12_party 32 = .ok (.aload_n 0, 1) := by decide +kernel
theorem dX12_party_33 : decode cX12_party 33 = .ok (.aload_n 0, 1) := by decide +kernel
theorem dX12_party_34 : decode cX12_party 34 = .ok (.getfield 393, 3) := by decide +kernel
theorem dX12_party_37 : decode cX12_party 37 = .ok (.iconst 1, 1) := by decide +kernel
theorem dX12_party_38 : decode cX12_party 38 = .ok (.iadd, 1) := by decide +kernel
theorem dX12_party_39 : decode cX12_party 39 = .ok (.putfield 393, 3) := by decide +kernel
theorem dX12_party_42 : decode cX12_party 42 = .ok (.aload_n 0, 1) := by decide +kernel
theorem dX12_party_43 : decode cX12_party 43 = .ok (.getfield 393, 3) := by decide +kernel
theorem dX12_party_46 : decode cX12_party 46 = .ok (.iconst 1, 1) := by decide +kernel
theorem dX12_party_47 : decode cX12_party 47 = .ok (.isub, 1) := by decide +kernel
theorem dX12_party_48 : decode cX12_party 48 = .ok (.ireturn, 1) := by decide +kernel
theorem dX12_people_0 : decode cX12_people 0 = .ok (.aload_n 0, 1) := by decide +kernel
theorem dX12_people_1 : decode cX12_people 1 = .ok (.iload_n 1, 1) := by decide +kernel
theorem dX12_people_2 : decode cX12_people 2 = .ok (.invokevirtual 433, 3) := by decide +kernel
theorem dX12_people_5 : decode cX12_people 5 = .ok (.ifCond .eq 34, 3) := by decide +kernel
theorem dX12_people_39 : decode cX12_people 39 = .ok (.iconst 0, 1) := by decide +kernel
theorem dX12_people_40 : decode cX12_people 40 = .ok (.ireturn, 1) := by decide +kernel
theorem dX12_place_0 : decode cX12_place 0 = .ok (.aload_n 0, 1) := by decide +kernel
theorem dX12_place_1 : decode cX12_place 1 = .ok (.getfield 35, 3) := by decide +kernel
theorem dX12_place_4 : decode cX12_place 4 = .ok (.aload_n 0, 1) := by decide +kernel
theorem dX12_place_5 : decode cX12_place 5 = .ok (.getfield 375, 3) := by decide +kernel
theorem dX12_place_8 : decode cX12_place 8 = .ok (.iload_n 1, 1) := by decide +kernel
theorem dX12_place_9 : decode cX12_place 9 = .ok (.iastore, 1) := by decide +kernel
theorem dX12_place_10 : decode cX12_place 10 = .ok (.aload_n 0, 1) := by decide +kernel
theorem dX12_place_11 : decode cX12_place 11 = .ok (.getfield 38, 3) := by decide +kernel
theorem dX12_place_14 : decode cX12_place 14 = .ok (.aload_n 0, 1) := by decide +kernel
theorem dX12_place_15 : decode cX12_place 15 = .ok (.getfield 375, 3) := by decide +kernel
theorem dX12_place_18 : decode cX12_place 18 = .ok (.iload_n 2, 1) := by decide +kernel
theorem dX12_place_19 : decode cX12_place 19 = .ok (.iastore, 1) := by decide +kernel
theorem dX12_place_20 : decode cX12_place 20 = .ok (.aload_n 0, 1) := by decide +kernel
theorem dX12_place_21 : decode cX12_place 21 = .ok (.getfield 41, 3) := by decide +kernel
theorem dX12_place_24 : decode cX12_place 24 = .ok (.aload_n 0, 1) := by decide +kernel
theorem dX12_place_25 : decode cX12_place 25 = .ok (.getfield 375, 3) := by decide +kernel
theorem dX12_place_28 : decode cX12_place 28 = .ok (.iload_n 3, 1) := by decide +kernel
theorem dX12_place_29 : decode cX12_place 29 = .ok (.iastore, 1) := by decide +kernel
theorem dX12_place_30 : decode cX12_place 30 = .ok (.aload_n 0, 1) := by decide +kernel
theorem dX12_place_31 : decode cX12_place 31 = .ok (.getfield 44, 3) := by decide +kernel
theorem dX12_place_34 : decode cX12_place 34 = .ok (.aload_n 0, 1) := by decide +kernel
theorem dX12_place_35 : decode cX12_place 35 = .ok (.getfield 375, 3) := by decide +kernel
theorem dX12_place_38 : decode cX12_place 38 = .ok (.iload 4, 2) := by decide +kernel
theorem dX12_place_40 : decode cX12_place 40 = .ok (.iastore, 1) := by decide +kernel
theorem dX12_place_41 : decode cX12_place 41 = .ok (.aload_n 0, 1) := by decide +kernel
theorem dX12_place_42 : decode cX12_place 42 = .ok (.getfield 47, 3) := by decide +kernel
theorem dX12_place_45 : decode cX12_place 45 = .ok (.aload_n 0, 1) := by decide +kernel
theorem dX12_place_46 : decode cX12_place 46 = .ok (.getfield 375, 3) := by decide +kernel
theorem dX12_place_49 : decode cX12_place 49 = .ok (.iload 5, 2) := by decide +kernel
theorem dX12_place_51 : decode cX12_place 51 = .ok (.iastore, 1) := by decide +kernel
theorem dX12_place_52 : decode cX12_place 52 = .ok (.aload_n 0, 1) := by decide +kernel
theorem dX12_place_53 : decode cX12_place 53 = .ok (.getfield 50, 3) := by decide +kernel
theorem dX12_place_56 : decode cX12_place 56 = .ok (.aload_n 0, 1) := by decide +kernel
theorem dX12_place_57 : decode cX12_place 57 = .ok (.getfield 375, 3) := by decide +kernel
theorem dX12_place_60 : decode cX12_place 60 = .ok (.aload_n 0, 1) := by decide +kernel
theorem dX12_place_61 : decode cX12_place 61 = .ok (.getfield 396, 3) := by decide +kernel
theorem dX12_place_64 : decode cX12_place 64 = .ok (.iastore, 1) := by decide +kernel
theorem dX12_place_65 : decode cX12_place 65 = .ok (.aload_n 0, 1) := by decide +kernel
theorem dX12_place_66 : decode cX12_place 66 = .ok (.aload_n 0, 1) := by decide +kernel
theorem dX12_place_67 : decode cX12_place 67 = .ok (.getfield 375, 3) := by decide +kernel
theorem dX12_place_70 : decode cX12_place 70 = .ok (.iconst 1, 1) := by decide +kernel
theorem dX12_place_71 : decode cX12_place 71 = .ok (.iadd, 1) := by decide +kernel
theorem dX12_place_72 : decode cX12_place 72 = .ok (.putfield 375, 3) := by decide +kernel
theorem dX12_place_75 : decode cX12_place 75 = .ok (.aload_n 0, 1) := by decide +kernel
theorem dX12_place_76 : decode cX12_place 76 = .ok (.getfield 375, 3) := by decide +kernel
theorem dX12_place_79 : decode cX12_place 79 = .ok (.iconst 1, 1) := by decide +kernel
theorem dX12_place_80 : decode cX12_place 80 = .ok (.isub, 1) := by decide +kernel
theorem dX12_place_81 : decode cX12_place 81 = .ok (.ireturn, 1) := by decide +kernel
theorem dX12_plan_0 : decode cX12_plan 0 = .ok (.aload_n 0, 1) := by decide +kernel
theorem dX12_plan_1 : decode cX12_plan 1 = .ok (.iload_n 1, 1) := by decide +kernel
theorem dX12_plan_2 : decode cX12_plan 2 = .ok (.invokevirtual 618, 3) := by decide +kernel
theorem dX12_plan_5 : decode cX12_plan 5 = .ok (.ifCond .eq 21, 3) := by decide +kernel
theorem dX12_plan_26 : decode cX12_plan 26 = .ok (.iconst (-1), 1) := by decide +kernel
theorem dX12_plan_27 : decode cX12_plan 27 = .ok (.ireturn, 1) := by decide +kernel
theorem dX12_planned_0 : decode cX12_planned 0 = .ok (.aload_n 0, 1) := by decide +kernel
theorem dX12_planned_1 : decode cX12_planned 1 = .ok (.iload_n 1, 1) := by decide +kernel
theorem dX12_planned_2 : decode cX12_planned 2 = .ok (.iload_n 2, 1) := by decide +kernel
theorem dX12_planned_3 : decode cX12_planned 3 = .ok (.iload_n 3, 1) := by decide +kernel
theorem dX12_planned_4 : decode cX12_planned 4 = .ok (.invokevirtual 758, 3) := by decide +kernel
theorem dX12_planned_7 : decode cX12_planned 7 = .ok (.iconst (-1), 1) := by decide +kernel
theorem dX12_planned_8 : decode cX12_planned 8 = .ok (.if_icmp .eq 17, 3) := by decide +kernel
theorem dX12_planned_25 : decode cX12_planned 25 = .ok (.iconst (-1), 1) := by decide +kernel
theorem dX12_planned_26 : decode cX12_planned 26 = .ok (.ireturn, 1) := by decide +kernel
theorem dX12_reading_0 : decode cX12_reading 0 = .ok (.aload_n 0, 1) := by decide +kernel
theorem dX12_reading_1 : decode cX12_reading 1 = .ok (.iload_n 1, 1) := by decide +kernel
theorem dX12_reading_2 : decode cX12_reading 2 = .ok (.invokevirtual 406, 3) := by decide +kernel
theorem dX12_reading_5 : decode cX12_reading 5 = .ok (.ifCond .eq 58, 3) := by decide +kernel
theorem dX12_reading_63 : decode cX12_reading 63 = .ok (.iconst (-1), 1) := by decide +kernel
theorem dX12_reading_64 : decode cX12_reading 64 = .ok (.ireturn, 1) := by decide +kernel
theorem dX12_report_0 : decode cX12_report 0 = .ok (.aload_n 0, 1) := by decide +kernel
theorem dX12_report_1 : decode cX12_report 1 = .ok (.iload_n 1, 1) := by decide +kernel
theorem dX12_report_2 : decode cX12_report 2 = .ok (.invokevirtual 403, 3) := by decide +kernel
theorem dX12_report_5 : decode cX12_report 5 = .ok (.ifCond .eq 38, 3) := by decide +kernel
theorem dX12_report_43 : decode cX12_report 43 = .ok (.iconst 0, 1) := by decide +kernel
theorem dX12_report_44 : decode cX12_report 44 = .ok (.ireturn, 1) := by decide +kernel
theorem dX12_reserve_0 : decode cX12_reserve 0 = .ok (.aload_n 0, 1) := by decide +kernel
theorem dX12_reserve_1 : decode cX12_reserve 1 = .ok (.iload_n 1, 1) := by decide +kernel
theorem dX12_reserve_2 : decode cX12_reserve 2 = .ok (.iload_n 2, 1) := by decide +kernel
theorem dX12_reserve_3 : decode cX12_reserve 3 = .ok (.invokevirtual 415, 3) := by decide +kernel
theorem dX12_reserve_6 : decode cX12_reserve 6 = .ok (.ifCond .eq 22, 3) := by decide +kernel
theorem dX12_reserve_9 : decode cX12_reserve 9 = .ok (.iload_n 3, 1) := by decide +kernel
theorem dX12_reserve_10 : decode cX12_reserve 10 = .ok (.iconst 1, 1) := by decide +kernel
theorem dX12_reserve_11 : decode cX12_reserve 11 = .ok (.bipush 9, 2) := by decide +kernel
theorem dX12_reserve_13 : decode cX12_reserve 13 = .ok (.invokestatic 371, 3) := by decide +kernel
theorem dX12_reserve_16 : decode cX12_reserve 16 = .ok (.ifCond .eq 12, 3) := by decide +kernel
theorem dX12_reserve_19 : decode cX12_reserve 19 = .ok (.aload_n 0, 1) := by decide +kernel
theorem dX12_reserve_20 : decode cX12_reserve 20 = .ok (.getfield 375, 3) := by decide +kernel
theorem dX12_reserve_23 : decode cX12_reserve 23 = .ok (.bipush 60, 2) := by decide +kernel
theorem dX12_reserve_25 : decode cX12_reserve 25 = .ok (.if_icmp .ne 5, 3) := by decide +kernel
theorem dX12_reserve_28 : decode cX12_reserve 28 = .ok (.iconst (-1), 1) := by decide +kernel
theorem dX12_reserve_29 : decode cX12_reserve 29 = .ok (.ireturn, 1) := by decide +kernel
theorem dX12_reserve_30 : decode cX12_reserve 30 = .ok (.aload_n 0, 1) := by decide +kernel
theorem dX12_reserve_31 : decode cX12_reserve 31 = .ok (.iconst 3, 1) := by decide +kernel
theorem dX12_reserve_32 : decode cX12_reserve 32 = .ok (.iconst (-1), 1) := by decide +kernel
theorem dX12_reserve_33 : decode cX12_reserve 33 = .ok (.iload_n 1, 1) := by decide +kernel
theorem dX12_reserve_34 : decode cX12_reserve 34 = .ok (.iload_n 2, 1) := by decide +kernel
theorem dX12_reserve_35 : decode cX12_reserve 35 = .ok (.iload_n 3, 1) := by decide +kernel
theorem dX12_reserve_36 : decode cX12_reserve 36 = .ok (.invokevirtual 421, 3) := by decide +kernel
theorem dX12_reserve_39 : decode cX12_reserve 39 = .ok (.ireturn, 1) := by decide +kernel
theorem dX12_say_0 : decode cX12_say 0 = .ok (.aload_n 0, 1) := by decide +kernel
theorem dX12_say_1 : decode cX12_say 1 = .ok (.iload_n 1, 1) := by decide +kernel
theorem dX12_say_2 : decode cX12_say 2 = .ok (.invokevirtual 406, 3) := by decide +kernel
theorem dX12_say_5 : decode cX12_say 5 = .ok (.ifCond .eq 11, 3) := by decide +kernel
theorem dX12_say_16 : decode cX12_say 16 = .ok (.iconst 0, 1) := by decide +kernel
theorem dX12_say_17 : decode cX12_say 17 = .ok (.ireturn, 1) := by decide +kernel
theorem dX12_sea_0 : decode cX12_sea 0 = .ok (.iload_n 1, 1) := by decide +kernel
theorem dX12_sea_1 : decode cX12_sea 1 = .ok (.invokestatic 615, 3) := by decide +kernel
theorem dX12_sea_4 : decode cX12_sea 4 = .ok (.ifCond .eq 13, 3) := by decide +kernel
theorem dX12_sea_7 : decode cX12_sea 7 = .ok (.iload_n 2, 1) := by decide +kernel
theorem dX12_sea_8 : decode cX12_sea 8 = .ok (.iconst 1, 1) := by decide +kernel
theorem dX12_sea_9 : decode cX12_sea 9 = .ok (.bipush 90, 2) := by decide +kernel
theorem dX12_sea_11 : decode cX12_sea 11 = .ok (.invokestatic 371, 3) := by decide +kernel
theorem dX12_sea_14 : decode cX12_sea 14 = .ok (.ifCond .ne 5, 3) := by decide +kernel
theorem dX12_sea_17 : decode cX12_sea 17 = .ok (.iconst 0, 1) := by decide +kernel
theorem dX12_sea_18 : decode cX12_sea 18 = .ok (.ireturn, 1) := by decide +kernel
theorem dX12_sea_19 : decode cX12_sea 19 = .ok (.aload_n 0, 1) := by decide +kernel
theorem dX12_sea_20 : decode cX12_sea 20 = .ok (.getfield 244, 3) := by decide +kernel
theorem dX12_sea_23 : decode cX12_sea 23 = .ok (.iload_n 1, 1) := by decide +kernel
theorem dX12_sea_24 : decode cX12_sea 24 = .ok (.iload_n 2, 1) := by decide +kernel
