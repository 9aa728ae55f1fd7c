theorem dX12_init_0 : decode cX12_init 0 = .ok (.aload_n 0, 1) := by decide +kernel
theorem dX12_init_1 : decode cX12_init 1 = .ok (.invokespecial 1, 3) := by decide +kernel
theorem dX12_init_4 : decode cX12_init 4 = .ok (.aload_n 0, 1) := by decide +kernel
theorem dX12_init_5 : decode cX12_init 5 = .ok (.iconst (-1), 1) := by decide +kernel
theorem dX12_init_6 : decode cX12_init 6 = .ok (.putfield 9, 3) := by decide +kernel
theorem dX12_init_9 : decode cX12_init 9 = .ok (.aload_n 0, 1) := by decide +kernel
theorem dX12_init_10 : decode cX12_init 10 = .ok (.sipush 400, 3) := by decide +kernel
theorem dX12_init_13 : decode cX12_init 13 = .ok (.newarray .int, 2) := by decide +kernel
theorem dX12_init_15 : decode cX12_init 15 = .ok (.putfield 13, 3) := by decide +kernel
theorem dX12_init_18 : decode cX12_init 18 = .ok (.aload_n 0, 1) := by decide +kernel
theorem dX12_init_19 : decode cX12_init 19 = .ok (.bipush 6, 2) := by decide +kernel
theorem dX12_init_21 : decode cX12_init 21 = .ok (.newarray .int, 2) := by decide +kernel
theorem dX12_init_23 : decode cX12_init 23 = .ok (.putfield 17, 3) := by decide +kernel
theorem dX12_init_26 : decode cX12_init 26 = .ok (.aload_n 0, 1) := by decide +kernel
theorem dX12_init_27 : decode cX12_init 27 = .ok (.bipush 6, 2) := by decide +kernel
theorem dX12_init_29 : decode cX12_init 29 = .ok (.newarray .int, 2) := by decide +kernel
theorem dX12_init_31 : decode cX12_init 31 = .ok (.putfield 20, 3) := by decide +kernel
theorem dX12_init_34 : decode cX12_init 34 = .ok (.aload_n 0, 1) := by decide +kernel
theorem dX12_init_35 : decode cX12_init 35 = .ok (.bipush 6, 2) := by decide +kernel
theorem dX12_init_37 : decode cX12_init 37 = .ok (.newarray .int, 2) := by decide +kernel
theorem dX12_init_39 : decode cX12_init 39 = .ok (.putfield 23, 3) := by decide +kernel
theorem dX12_init_42 : decode cX12_init 42 = .ok (.aload_n 0, 1) := by decide +kernel
theorem dX12_init_43 : decode cX12_init 43 = .ok (.bipush 96, 2) := by decide +kernel
theorem dX12_init_45 : decode cX12_init 45 = .ok (.newarray .int, 2) := by decide +kernel
theorem dX12_init_47 : decode cX12_init 47 = .ok (.putfield 26, 3) := by decide +kernel
theorem dX12_init_50 : decode cX12_init 50 = .ok (.aload_n 0, 1) := by decide +kernel
theorem dX12_init_51 : decode cX12_init 51 = .ok (.iconst 3, 1) := by decide +kernel
theorem dX12_init_52 : decode cX12_init 52 = .ok (.newarray .long, 2) := by decide +kernel
theorem dX12_init_54 : decode cX12_init 54 = .ok (.putfield 29, 3) := by decide +kernel
theorem dX12_init_57 : decode cX12_init 57 = .ok (.aload_n 0, 1) := by decide +kernel
theorem dX12_init_58 : decode cX12_init 58 = .ok (.iconst 4, 1) := by decide +kernel
theorem dX12_init_59 : decode cX12_init 59 = .ok (.newarray .int, 2) := by decide +kernel
theorem dX12_init_61 : decode cX12_init 61 = .ok (.putfield 33, 3) := by decide +kernel
theorem dX12_init_64 : decode cX12_init 64 = .ok (.aload_n 0, 1) := by decide +kernel
theorem dX12_init_65 : decode cX12_init 65 = .ok (.sipush 300, 3) := by decide +kernel
theorem dX12_init_68 : decode cX12_init 68 = .ok (.newarray .int, 2) := by decide +kernel
theorem dX12_init_70 : decode cX12_init 70 = .ok (.putfield 36, 3) := by decide +kernel
theorem dX12_init_73 : decode cX12_init 73 = .ok (.aload_n 0, 1) := by decide +kernel
theorem dX12_init_74 : decode cX12_init 74 = .ok (.sipush 300, 3) := by decide +kernel
theorem dX12_init_77 : decode cX12_init 77 = .ok (.newarray .int, 2) := by decide +kernel
theorem dX12_init_79 : decode cX12_init 79 = .ok (.putfield 39, 3) := by decide +kernel
theorem dX12_init_82 : decode cX12_init 82 = .ok (.aload_n 0, 1) := by decide +kernel
theorem dX12_init_83 : decode cX12_init 83 = .ok (.sipush 300, 3) := by decide +kernel
theorem dX12_init_86 : decode cX12_init 86 = .ok (.newarray .int, 2) := by decide +kernel
theorem dX12_init_88 : decode cX12_init 88 = .ok (.putfield 42, 3) := by decide +kernel
theorem dX12_init_91 : decode cX12_init 91 = .ok (.aload_n 0, 1) := by decide +kernel
theorem dX12_init_92 : decode cX12_init 92 = .ok (.sipush 300, 3) := by decide +kernel
theorem dX12_init_95 : decode cX12_init 95 = .ok (.newarray .int, 2) := by decide +kernel
theorem dX12_init_97 : decode cX12_init 97 = .ok (.putfield 45, 3) := by decide +kernel
theorem dX12_init_100 : decode cX12_init 100 = .ok (.aload_n 0, 1) := by decide +kernel
theorem dX12_init_101 : decode cX12_init 101 = .ok (.sipush 300, 3) := by decide +kernel
theorem dX12_init_104 : decode cX12_init 104 = .ok (.newarray .int, 2) := by decide +kernel
theorem dX12_init_106 : decode cX12_init 106 = .ok (.putfield 48, 3) := by decide +kernel
theorem dX12_init_109 : decode cX12_init 109 = .ok (.aload_n 0, 1) := by decide +kernel
theorem dX12_init_110 : decode cX12_init 110 = .ok (.sipush 1024, 3) := by decide +kernel
theorem dX12_init_113 : decode cX12_init 113 = .ok (.newarray .int, 2) := by decide +kernel
theorem dX12_init_115 : decode cX12_init 115 = .ok (.putfield 51, 3) := by decide +kernel
theorem dX12_init_118 : decode cX12_init 118 = .ok (.aload_n 0, 1) := by decide +kernel
theorem dX12_init_119 : decode cX12_init 119 = .ok (.sipush 901, 3) := by decide +kernel
theorem dX12_init_122 : decode cX12_init 122 = .ok (.newarray .int, 2) := by decide +kernel
theorem dX12_init_124 : decode cX12_init 124 = .ok (.putfield 54, 3) := by decide +kernel
theorem dX12_init_127 : decode cX12_init 127 = .ok (.aload_n 0, 1) := by decide +kernel
theorem dX12_init_128 : decode cX12_init 128 = .ok (.ldc 57, 2) := by decide +kernel
theorem dX12_init_130 : decode cX12_init 130 = .ok (.newarray .int, 2) := by decide +kernel
theorem dX12_init_132 : decode cX12_init 132 = .ok (.putfield 58, 3) := by decide +kernel
theorem dX12_init_135 : decode cX12_init 135 = .ok (.aload_n 0, 1) := by decide +kernel
theorem dX12_init_136 : decode cX12_init 136 = .ok (.iconst (-1), 1) := by decide +kernel
theorem dX12_init_137 : decode cX12_init 137 = .ok (.putfield 61, 3) := by decide +kernel
theorem dX12_init_140 : decode cX12_init 140 = .ok (.aload_n 0, 1) := by decide +kernel
theorem dX12_init_141 : decode cX12_init 141 = .ok (.iconst 4, 1) := by decide +kernel
theorem dX12_init_142 : decode cX12_init 142 = .ok (.newarray .int, 2) := by decide +kernel
theorem dX12_init_144 : decode cX12_init 144 = .ok (.putfield 64, 3) := by decide +kernel
theorem dX12_init_147 : decode cX12_init 147 = .ok (.aload_n 0, 1) := by decide +kernel
theorem dX12_init_148 : decode cX12_init 148 = .ok (.bipush 10, 2) := by decide +kernel
theorem dX12_init_150 : decode cX12_init 150 = .ok (.newarray .int, 2) := by decide +kernel
theorem dX12_init_152 : decode cX12_init 152 = .ok (.putfield 67, 3) := by decide +kernel
theorem dX12_init_155 : decode cX12_init 155 = .ok (.aload_n 0, 1) := by decide +kernel
theorem dX12_init_156 : decode cX12_init 156 = .ok (.bipush 10, 2) := by decide +kernel
theorem dX12_init_158 : decode cX12_init 158 = .ok (.newarray .int, 2) := by decide +kernel
theorem dX12_init_160 : decode cX12_init 160 = .ok (.putfield 70, 3) := by decide +kernel
theorem dX12_init_163 : decode cX12_init 163 = .ok (.aload_n 0, 1) := by decide +kernel
theorem dX12_init_164 : decode cX12_init 164 = .ok (.sipush 1000, 3) := by decide +kernel
theorem dX12_init_167 : decode cX12_init 167 = .ok (.newarray .int, 2) := by decide +kernel
theorem dX12_init_169 : decode cX12_init 169 = .ok (.putfield 73, 3) := by decide +kernel
theorem dX12_init_172 : decode cX12_init 172 = .ok (.aload_n 0, 1) := by decide +kernel
theorem dX12_init_173 : decode cX12_init 173 = .ok (.sipush 1000, 3) := by decide +kernel
theorem dX12_init_176 : decode cX12_init 176 = .ok (.newarray .int, 2) := by decide +kernel
theorem dX12_init_178 : decode cX12_init 178 = .ok (.putfield 76, 3) := by decide +kernel
theorem dX12_init_181 : decode cX12_init 181 = .ok (.aload_n 0, 1) := by decide +kernel
theorem dX12_init_182 : decode cX12_init 182 = .ok (.sipush 1000, 3) := by decide +kernel
theorem dX12_init_185 : decode cX12_init 185 = .ok (.newarray .int, 2) := by decide +kernel
theorem dX12_init_187 : decode cX12_init 187 = .ok (.putfield 79, 3) := by decide +kernel
theorem dX12_init_190 : decode cX12_init 190 = .ok (.aload_n 0, 1) := by decide +kernel
theorem dX12_init_191 : decode cX12_init 191 = .ok (.sipush 2400, 3) := by decide +kernel
theorem dX12_init_194 : decode cX12_init 194 = .ok (.newarray .int, 2) := by decide +kernel
theorem dX12_init_196 : decode cX12_init 196 = .ok (.putfield 82, 3) := by decide +kernel
theorem dX12_init_199 : decode cX12_init 199 = .ok (.aload_n 0, 1) := by decide +kernel
theorem dX12_init_200 : decode cX12_init 200 = .ok (.sipush 3000, 3) := by decide +kernel
theorem dX12_init_203 : decode cX12_init 203 = .ok (.newarray .int, 2) := by decide +kernel
theorem dX12_init_205 : decode cX12_init 205 = .ok (.putfield 85, 3) := by decide +kernel
theorem dX12_init_208 : decode cX12_init 208 = .ok (.aload_n 0, 1) := by decide +kernel
theorem dX12_init_209 : decode cX12_init 209 = .ok (.sipush 3000, 3) := by decide +kernel
theorem dX12_init_212 : decode cX12_init 212 = .ok (.newarray .int, 2) := by decide +kernel
theorem dX12_init_214 : decode cX12_init 214 = .ok (.putfield 88, 3) := by decide +kernel
theorem dX12_init_217 : decode cX12_init 217 = .ok (.aload_n 0, 1) := by decide +kernel
theorem dX12_init_218 : decode cX12_init 218 = .ok (.sipush 3000, 3) := by decide +kernel
theorem dX12_init_221 : decode cX12_init 221 = .ok (.newarray .int, 2) := by decide +kernel
theorem dX12_init_223 : decode cX12_init 223 = .ok (.putfield 91, 3) := by decide +kernel
theorem dX12_init_226 : decode cX12_init 226 = .ok (.aload_n 0, 1) := by decide +kernel
theorem dX12_init_227 : decode cX12_init 227 = .ok (.sipush 3000, 3) := by decide +kernel
theorem dX12_init_230 : decode cX12_init 230 = .ok (.newarray .boolean, 2) := by decide +kernel
theorem dX12_init_232 : decode cX12_init 232 = .ok (.putfield 94, 3) := by decide +kernel
theorem dX12_init_235 : decode cX12_init 235 = .ok (.aload_n 0, 1) := by decide +kernel
theorem dX12_init_236 : decode cX12_init 236 = .ok (.sipush 3000, 3) := by decide +kernel
theorem dX12_init_239 : decode cX12_init 239 = .ok (.newarray .int, 2) := by decide +kernel
theorem dX12_init_241 : decode cX12_init 241 = .ok (.putfield 98, 3) := by decide +kernel
theorem dX12_init_244 : decode cX12_init 244 = .ok (.aload_n 0, 1) := by decide +kernel
theorem dX12_init_245 : decode cX12_init 245 = .ok (.sipush 3000, 3) := by decide +kernel
theorem dX12_init_248 : decode cX12_init 248 = .ok (.newarray .int, 2) := by decide +kernel
theorem dX12_init_250 : decode cX12_init 250 = .ok (.putfield 101, 3) := by decide +kernel
theorem dX12_init_253 : decode cX12_init 253 = .ok (.aload_n 0, 1) := by decide +kernel
theorem dX12_init_254 : decode cX12_init 254 = .ok (.sipush 3000, 3) := by decide +kernel
theorem dX12_init_257 : decode cX12_init 257 = .ok (.newarray .int, 2) := by decide +kernel
theorem dX12_init_259 : decode cX12_init 259 = .ok (.putfield 104, 3) := by decide +kernel
theorem dX12_init_262 : decode cX12_init 262 = .ok (.aload_n 0, 1) := by decide +kernel
theorem dX12_init_263 : decode cX12_init 263 = .ok (.sipush 3000, 3) := by decide +kernel
theorem dX12_init_266 : decode cX12_init 266 = .ok (.newarray .int, 2) := by decide +kernel
theorem dX12_init_268 : decode cX12_init 268 = .ok (.putfield 107, 3) := by decide +kernel
theorem dX12_init_271 : decode cX12_init 271 = .ok (.aload_n 0, 1) := by decide +kernel
theorem dX12_init_272 : decode cX12_init 272 = .ok (.sipush 3000, 3) := by decide +kernel
theorem dX12_init_275 : decode cX12_init 275 = .ok (.newarray .int, 2) := by decide +kernel
theorem dX12_init_277 : decode cX12_init 277 = .ok (.putfield 110, 3) := by decide +kernel
theorem dX12_init_280 : decode cX12_init 280 = .ok (.aload_n 0, 1) := by decide +kernel
theorem dX12_init_281 : decode cX12_init 281 = .ok (.sipush 3000, 3) := by decide +kernel
theorem dX12_init_284 : decode cX12_init 284 = .ok (.newarray .boolean, 2) := by decide +kernel
theorem dX12_init_286 : decode cX12_init 286 = .ok (.putfield 113, 3) := by decide +kernel
theorem dX12_init_289 : decode cX12_init 289 = .ok (.aload_n 0, 1) := by decide +kernel
theorem dX12_init_290 : decode cX12_init 290 = .ok (.sipush 3000, 3) := by decide +kernel
theorem dX12_init_293 : decode cX12_init 293 = .ok (.newarray .boolean, 2) := by decide +kernel
theorem dX12_init_295 : decode cX12_init 295 = .ok (.putfield 116, 3) := by decide +kernel
theorem dX12_init_298 : decode cX12_init 298 = .ok (.aload_n 0, 1) := by decide +kernel
theorem dX12_init_299 : decode cX12_init 299 = .ok (.sipush 300, 3) := by decide +kernel
theorem dX12_init_302 : decode cX12_init 302 = .ok (.newarray .boolean, 2) := by decide +kernel
theorem dX12_init_304 : decode cX12_init 304 = .ok (.putfield 119, 3) := by decide +kernel
theorem dX12_init_307 : decode cX12_init 307 = .ok (.aload_n 0, 1) := by decide +kernel
theorem dX12_init_308 : decode cX12_init 308 = .ok (.sipush 300, 3) := by decide +kernel
theorem dX12_init_311 : decode cX12_init 311 = .ok (.newarray .boolean, 2) := by decide +kernel
theorem dX12_init_313 : decode cX12_init 313 = .ok (.putfield 122, 3) := by decide +kernel
theorem dX12_init_316 : decode cX12_init 316 = .ok (.aload_n 0, 1) := by decide +kernel
theorem dX12_init_317 : decode cX12_init 317 = .ok (.sipush 1000, 3) := by decide +kernel
theorem dX12_init_320 : decode cX12_init 320 = .ok (.newarray .int, 2) := by decide +kernel
theorem dX12_init_322 : decode cX12_init 322 = .ok (.putfield 125, 3) := by decide +kernel
theorem dX12_init_325 : decode cX12_init 325 = .ok (.aload_n 0, 1) := by decide +kernel
theorem dX12_init_326 : decode cX12_init 326 = .ok (.sipush 1001, 3) := by decide +kernel
theorem dX12_init_329 : decode cX12_init 329 = .ok (.newarray .int, 2) := by decide +kernel
theorem dX12_init_331 : decode cX12_init 331 = .ok (.putfield 128, 3) := by decide +kernel
theorem dX12_init_334 : decode cX12_init 334 = .ok (.return_, 1) := by decide +kernel
theorem dX12_thrown_0 : decode cX12_thrown 0 = .ok (.aload_n 0, 1) := by decide +kernel
theorem dX12_thrown_1 : decode cX12_thrown 1 = .ok (.getfield 131, 3) := by decide +kernel
theorem dX12_thrown_4 : decode cX12_thrown 4 = .ok (.ireturn, 1) := by decide +kernel
theorem dX12_refused_0 : decode cX12_refused 0 = .ok (.aload_n 0, 1) := by decide +kernel
theorem dX12_refused_1 : decode cX12_refused 1 = .ok (.iload_n 1, 1) := by decide +kernel
theorem dX12_refused_2 : decode cX12_refused 2 = .ok (.putfield 134, 3) := by decide +kernel
theorem dX12_refused_5 : decode cX12_refused 5 = .ok (.aload_n 0, 1) := by decide +kernel
theorem dX12_refused_6 : decode cX12_refused 6 = .ok (.iconst (-1), 1) := by decide +kernel
theorem dX12_refused_7 : decode cX12_refused 7 = .ok (.putfield 9, 3) := by decide +kernel
theorem dX12_refused_10 : decode cX12_refused 10 = .ok (.iconst (-1), 1) := by decide +kernel
theorem dX12_refused_11 : decode cX12_refused 11 = .ok (.ireturn, 1) := by decide +kernel
theorem dX12_good_0 : decode cX12_good 0 = .ok (.aload_n 0, 1) := by decide +kernel
theorem dX12_good_1 : decode cX12_good 1 = .ok (.iconst 0, 1) := by decide +kernel
theorem dX12_good_2 : decode cX12_good 2 = .ok (.putfield 134, 3) := by decide +kernel
theorem dX12_good_5 : decode cX12_good 5 = .ok (.aload_n 0, 1) := by decide +kernel
theorem dX12_good_6 : decode cX12_good 6 = .ok (.iconst (-1), 1) := by decide +kernel
theorem dX12_good_7 : decode cX12_good 7 = .ok (.putfield 9, 3) := by decide +kernel
theorem dX12_good_10 : decode cX12_good 10 = .ok (.iload_n 1, 1) := by decide +kernel
theorem dX12_good_11 : decode cX12_good 11 = .ok (.ireturn, 1) := by decide +kernel
theorem dX12_in_0 : decode cX12_in 0 = .ok (.iload_n 0, 1) := by decide +kernel
theorem dX12_in_1 : decode cX12_in 1 = .ok (.iload_n 1, 1) := by decide +kernel
theorem dX12_in_2 : decode cX12_in 2 = .ok (.if_icmp .lt 12, 3) := by decide +kernel
theorem dX12_in_5 : decode cX12_in 5 = .ok (.iload_n 0, 1) := by decide +kernel
theorem dX12_in_6 : decode cX12_in 6 = .ok (.iload_n 2, 1) := by decide +kernel
theorem dX12_in_7 : decode cX12_in 7 = .ok (.if_icmp .gt 7, 3) := by decide +kernel
theorem dX12_in_10 : decode cX12_in 10 = .ok (.iconst 1, 1) := by decide +kernel
theorem dX12_in_11 : decode cX12_in 11 = .ok (.goto 4, 3) := by decide +kernel
theorem dX12_in_14 : decode cX12_in 14 = .ok (.iconst 0, 1) := by decide +kernel
theorem dX12_in_15 : decode cX12_in 15 = .ok (.ireturn, 1) := by decide +kernel
theorem dX12_feed_0 : decode cX12_feed 0 = .ok (.aload_n 0, 1) := by decide +kernel
theorem dX12_feed_1 : decode cX12_feed 1 = .ok (.iconst 0, 1) := by decide +kernel
theorem dX12_feed_2 : decode cX12_feed 2 = .ok (.putfield 131, 3) := by decide +kernel
theorem dX12_feed_5 : decode cX12_feed 5 = .ok (.aload_n 0, 1) := by decide +kernel
theorem dX12_feed_6 : decode cX12_feed 6 = .ok (.getfield 137, 3) := by decide +kernel
theorem dX12_feed_9 : decode cX12_feed 9 = .ok (.bipush 20, 2) := by decide +kernel
theorem dX12_feed_11 : decode cX12_feed 11 = .ok (.iadd, 1) := by decide +kernel
theorem dX12_feed_12 : decode cX12_feed 12 = .ok (.sipush 400, 3) := by decide +kernel
theorem dX12_feed_15 : decode cX12_feed 15 = .ok (.if_icmp .le 5, 3) := by decide +kernel
theorem dX12_feed_18 : decode cX12_feed 18 = .ok (.iconst (-1), 1) := by decide +kernel
theorem dX12_feed_19 : decode cX12_feed 19 = .ok (.ireturn, 1) := by decide +kernel
theorem dX12_feed_20 : decode cX12_feed 20 = .ok (.iconst 0, 1) := by decide +kernel
theorem dX12_feed_21 : decode cX12_feed 21 = .ok (.istore 6, 2) := by decide +kernel
theorem dX12_feed_23 : decode cX12_feed 23 = .ok (.iload 6, 2) := by decide +kernel
theorem dX12_feed_25 : decode cX12_feed 25 = .ok (.bipush 20, 2) := by decide +kernel
theorem dX12_feed_27 : decode cX12_feed 27 = .ok (.if_icmp .ge 86, 3) := by decide +kernel
theorem dX12_feed_30 : decode cX12_feed 30 = .ok (.iload 6, 2) := by decide +kernel
theorem dX12_feed_32 : decode cX12_feed 32 = .ok (.iconst 4, 1) := by decide +kernel
theorem dX12_feed_33 : decode cX12_feed 33 = .ok (.if_icmp .ge 7, 3) := by decide +kernel
theorem dX12_feed_36 : decode cX12_feed 36 = .ok (.iload_n 1, 1) := by decide +kernel
theorem dX12_feed_37 : decode cX12_feed 37 = .ok (.goto 39, 3) := by decide +kernel
theorem dX12_feed_40 : decode cX12_feed 40 = .ok (.iload 6, 2) := by decide +kernel
theorem dX12_feed_42 : decode cX12_feed 42 = .ok (.bipush 8, 2) := by decide +kernel
theorem dX12_feed_44 : decode cX12_feed 44 = .ok (.if_icmp .ge 7, 3) := by decide +kernel
theorem dX12_feed_47 : decode cX12_feed 47 = .ok (.iload_n 2, 1) := by decide +kernel
theorem dX12_feed_48 : decode cX12_feed 48 = .ok (.goto 28, 3) := by decide +kernel
theorem dX12_feed_51 : decode cX12_feed 51 = .ok (.iload 6, 2) := by decide +kernel
theorem dX12_feed_53 : decode cX12_feed 53 = .ok (.bipush 12, 2) := by decide +kernel
theorem dX12_feed_55 : decode cX12_feed 55 = .ok (.if_icmp .ge 7, 3) := by decide +kernel
theorem dX12_feed_58 : decode cX12_feed 58 = .ok (.iload_n 3, 1) := by decide +kernel
theorem dX12_feed_59 : decode cX12_feed 59 = .ok (.goto 17, 3) := by decide +kernel
theorem dX12_feed_62 : decode cX12_feed 62 = .ok (.iload 6, 2) := by decide +kernel
theorem dX12_feed_64 : decode cX12_feed 64 = .ok (.bipush 16, 2) := by decide +kernel
theorem dX12_feed_66 : decode cX12_feed 66 = .ok (.if_icmp .ge 8, 3) := by decide +kernel
theorem dX12_feed_69 : decode cX12_feed 69 = .ok (.iload 4, 2) := by decide +kernel
theorem dX12_feed_71 : decode cX12_feed 71 = .ok (.goto 5, 3) := by decide +kernel
theorem dX12_feed_74 : decode cX12_feed 74 = .ok (.iload 5, 2) := by decide +kernel
theorem dX12_feed_76 : decode cX12_feed 76 = .ok (.istore 7, 2) := by decide +kernel
theorem dX12_feed_78 : decode cX12_feed 78 = .ok (.aload_n 0, 1) := by decide +kernel
theorem dX12_feed_79 : decode cX12_feed 79 = .ok (.getfield 13, 3) := by decide +kernel
theorem dX12_feed_82 : decode cX12_feed 82 = .ok (.aload_n 0, 1) := by decide +kernel
theorem dX12_feed_83 : decode cX12_feed 83 = .ok (.getfield 137, 3) := by decide +kernel
theorem dX12_feed_86 : decode cX12_feed 86 = .ok (.iload 6, 2) := by decide +kernel
theorem dX12_feed_88 : decode cX12_feed 88 = .ok (.iadd, 1) := by decide +kernel
theorem dX12_feed_89 : decode cX12_feed 89 = .ok (.iload 7, 2) := by decide +kernel
theorem dX12_feed_91 : decode cX12_feed 91 = .ok (.bipush 24, 2) := by decide +kernel
theorem dX12_feed_93 : decode cX12_feed 93 = .ok (.bipush 8, 2) := by decide +kernel
theorem dX12_feed_95 : decode cX12_feed 95 = .ok (.iload 6, 2) := by decide +kernel
theorem dX12_feed_97 : decode cX12_feed 97 = .ok (.iconst 4, 1) := by decide +kernel
theorem dX12_feed_98 : decode cX12_feed 98 = .ok (.irem, 1) := by decide +kernel
theorem dX12_feed_99 : decode cX12_feed 99 = .ok (.imul, 1) := by decide +kernel
theorem dX12_feed_100 : decode cX12_feed 100 = .ok (.isub, 1) := by decide +kernel
theorem dX12_feed_101 : decode cX12_feed 101 = .ok (.ishr, 1) := by decide +kernel
theorem dX12_feed_102 : decode cX12_feed 102 = .ok (.sipush 255, 3) := by decide +kernel
theorem dX12_feed_105 : decode cX12_feed 105 = .ok (.iand, 1) := by decide +kernel
theorem dX12_feed_106 : decode cX12_feed 106 = .ok (.iastore, 1) := by decide +kernel
theorem dX12_feed_107 : decode cX12_feed 107 = .ok (.iinc 6 1, 3) := by decide +kernel
theorem dX12_feed_110 : decode cX12_feed 110 = .ok (.goto (-87), 3) := by decide +kernel
theorem dX12_feed_113 : decode cX12_feed 113 = .ok (.aload_n 0, 1) := by decide +kernel
theorem dX12_feed_114 : decode cX12_feed 114 = .ok (.dup, 1) := by decide +kernel
theorem dX12_feed_115 : decode cX12_feed 115 = .ok (.getfield 137, 3) := by decide +kernel
theorem dX12_feed_118 : decode cX12_feed 118 = .ok (.bipush 20, 2) := by decide +kernel
theorem dX12_feed_120 : decode cX12_feed 120 = .ok (.iadd, 1) := by decide +kernel
theorem dX12_feed_121 : decode cX12_feed 121 = .ok (.putfield 137, 3) := by decide +kernel
theorem dX12_feed_124 : decode cX12_feed 124 = .ok (.aload_n 0, 1) := by decide +kernel
theorem dX12_feed_125 : decode cX12_feed 125 = .ok (.getfield 137, 3) := by decide +kernel
theorem dX12_feed_128 : decode cX12_feed 128 = .ok (.ireturn, 1) := by decide +kernel
theorem dX12_flawAt_0 : decode cX12_flawAt 0 = .ok (.aload_n 0, 1) := by decide +kernel
theorem dX12_flawAt_1 : decode cX12_flawAt 1 = .ok (.getfield 140, 3) := by decide +kernel
theorem dX12_flawAt_4 : decode cX12_flawAt 4 = .ok (.ifCond .le 4, 3) := by decide +kernel
theorem dX12_flawAt_7 : decode cX12_flawAt 7 = .ok (.return_, 1) := by decide +kernel
theorem dX12_flawAt_8 : decode cX12_flawAt 8 = .ok (.aload_n 0, 1) := by decide +kernel
theorem dX12_flawAt_9 : decode cX12_flawAt 9 = .ok (.iload_n 1, 1) := by decide +kernel
theorem dX12_flawAt_10 : decode cX12_flawAt 10 = .ok (.putfield 140, 3) := by decide +kernel
theorem dX12_flawAt_13 : decode cX12_flawAt 13 = .ok (.aload_n 0, 1) := by decide +kernel
theorem dX12_flawAt_14 : decode cX12_flawAt 14 = .ok (.iload_n 2, 1) := by decide +kernel
theorem dX12_flawAt_15 : decode cX12_flawAt 15 = .ok (.putfield 143, 3) := by decide +kernel
theorem dX12_flawAt_18 : decode cX12_flawAt 18 = .ok (.return_, 1) := by decide +kernel
theorem dX12_flaw_0 : decode cX12_flaw 0 = .ok (.aload_n 0, 1) := by decide +kernel
theorem dX12_flaw_1 : decode cX12_flaw 1 = .ok (.iload_n 1, 1) := by decide +kernel
theorem dX12_flaw_2 : decode cX12_flaw 2 = .ok (.aload_n 0, 1) := by decide +kernel
theorem dX12_flaw_3 : decode cX12_flaw 3 = .ok (.getfield 146, 3) := by decide +kernel
theorem dX12_flaw_6 : decode cX12_flaw 6 = .ok (.invokevirtual 149, 3) := by decide +kernel
theorem dX12_flaw_9 : decode cX12_flaw 9 = .ok (.return_, 1) := by decide +kernel
theorem dX12_isLetterAt_0 : decode cX12_isLetterAt 0 = .ok (.iload_n 1, 1) := by decide +kernel
theorem dX12_isLetterAt_1 : decode cX12_isLetterAt 1 = .ok (.aload_n 0, 1) := by decide +kernel
theorem dX12_isLetterAt_2 : decode cX12_isLetterAt 2 = .ok (.getfield 153, 3) := by decide +kernel
theorem dX12_isLetterAt_5 : decode cX12_isLetterAt 5 = .ok (.if_icmp .ge 23, 3) := by decide +kernel
theorem dX12_isLetterAt_8 : decode cX12_isLetterAt 8 = .ok (.aload_n 0, 1) := by decide +kernel
theorem dX12_isLetterAt_9 : decode cX12_isLetterAt 9 = .ok (.getfield 13, 3) := by decide +kernel
theorem dX12_isLetterAt_12 : decode cX12_isLetterAt 12 = .ok (.iload_n 1, 1) := by decide +kernel
theorem dX12_isLetterAt_13 : decode cX12_isLetterAt 13 = .ok (.iaload, 1) := by decide +kernel
theorem dX12_isLetterAt_14 : decode cX12_isLetterAt 14 = .ok (.bipush 97, 2) := by decide +kernel
theorem dX12_isLetterAt_16 : decode cX12_isLetterAt 16 = .ok (.bipush 122, 2) := by decide +kernel
theorem dX12_isLetterAt_18 : decode cX12_isLetterAt 18 = .ok (.invokestatic 156, 3) := by decide +kernel
theorem dX12_isLetterAt_21 : decode cX12_isLetterAt 21 = .ok (.ifCond .eq 7, 3) := by decide +kernel
theorem dX12_isLetterAt_24 : decode cX12_isLetterAt 24 = .ok (.iconst 1, 1) := by decide +kernel
theorem dX12_isLetterAt_25 : decode cX12_isLetterAt 25 = .ok (.goto 4, 3) := by decide +kernel
theorem dX12_isLetterAt_28 : decode cX12_isLetterAt 28 = .ok (.iconst 0, 1) := by decide +kernel
theorem dX12_isLetterAt_29 : decode cX12_isLetterAt 29 = .ok (.ireturn, 1) := by decide +kernel
theorem dX12_isDigitAt_0 : decode cX12_isDigitAt 0 = .ok (.iload_n 1, 1) := by decide +kernel
theorem dX12_isDigitAt_1 : decode cX12_isDigitAt 1 = .ok (.aload_n 0, 1) := by decide +kernel
theorem dX12_isDigitAt_2 : decode cX12_isDigitAt 2 = .ok (.getfield 153, 3) := by decide +kernel
theorem dX12_isDigitAt_5 : decode cX12_isDigitAt 5 = .ok (.if_icmp .ge 23, 3) := by decide +kernel
theorem dX12_isDigitAt_8 : decode cX12_isDigitAt 8 = .ok (.aload_n 0, 1) := by decide +kernel
theorem dX12_isDigitAt_9 : decode cX12_isDigitAt 9 = .ok (.getfield 13, 3) := by decide +kernel
theorem dX12_isDigitAt_12 : decode cX12_isDigitAt 12 = .ok (.iload_n 1, 1) := by decide +kernel
theorem dX12_isDigitAt_13 : decode cX12_isDigitAt 13 = .ok (.iaload, 1) := by decide +kernel
theorem dX12_isDigitAt_14 : decode cX12_isDigitAt 14 = .ok (.bipush 48, 2) := by decide +kernel
theorem dX12_isDigitAt_16 : decode cX12_isDigitAt 16 = .ok (.bipush 57, 2) := by decide +kernel
theorem dX12_isDigitAt_18 : decode cX12_isDigitAt 18 = .ok (.invokestatic 156, 3) := by decide +kernel
theorem dX12_isDigitAt_21 : decode cX12_isDigitAt 21 = .ok (.ifCond .eq 7, 3) := by decide +kernel
theorem dX12_isDigitAt_24 : decode cX12_isDigitAt 24 = .ok (.iconst 1, 1) := by decide +kernel
theorem dX12_isDigitAt_25 : decode cX12_isDigitAt 25 = .ok (.goto 4, 3) := by decide +kernel
theorem dX12_isDigitAt_28 : decode cX12_isDigitAt 28 = .ok (.iconst 0, 1) := by decide +kernel
theorem dX12_isDigitAt_29 : decode cX12_isDigitAt 29 = .ok (.ireturn, 1) := by decide +kernel
theorem dX12_goOn_0 : decode cX12_goOn 0 = .ok (.aload_n 0, 1) := by decide +kernel
theorem dX12_goOn_1 : decode cX12_goOn 1 = .ok (.getfield 140, 3) := by decide +kernel
theorem dX12_goOn_4 : decode cX12_goOn 4 = .ok (.ifCond .le 4, 3) := by decide +kernel
theorem dX12_goOn_7 : decode cX12_goOn 7 = .ok (.return_, 1) := by decide +kernel
theorem dX12_goOn_8 : decode cX12_goOn 8 = .ok (.aload_n 0, 1) := by decide +kernel
theorem dX12_goOn_9 : decode cX12_goOn 9 = .ok (.getfield 160, 3) := by decide +kernel
theorem dX12_goOn_12 : decode cX12_goOn 12 = .ok (.aload_n 0, 1) := by decide +kernel
theorem dX12_goOn_13 : decode cX12_goOn 13 = .ok (.getfield 153, 3) := by decide +kernel
theorem dX12_goOn_16 : decode cX12_goOn 16 = .ok (.if_icmp .ge 30, 3) := by decide +kernel
theorem dX12_goOn_19 : decode cX12_goOn 19 = .ok (.aload_n 0, 1) := by decide +kernel
theorem dX12_goOn_20 : decode cX12_goOn 20 = .ok (.getfield 13, 3) := by decide +kernel
theorem dX12_goOn_23 : decode cX12_goOn 23 = .ok (.aload_n 0, 1) := by decide +kernel
theorem dX12_goOn_24 : decode cX12_goOn 24 = .ok (.getfield 160, 3) := by decide +kernel
theorem dX12_goOn_27 : decode cX12_goOn 27 = .ok (.iaload, 1) := by decide +kernel
theorem dX12_goOn_28 : decode cX12_goOn 28 = .ok (.bipush 32, 2) := by decide +kernel
theorem dX12_goOn_30 : decode cX12_goOn 30 = .ok (.if_icmp .ne 16, 3) := by decide +kernel
theorem dX12_goOn_33 : decode cX12_goOn 33 = .ok (.aload_n 0, 1) := by decide +kernel
theorem dX12_goOn_34 : decode cX12_goOn 34 = .ok (.dup, 1) := by decide +kernel
theorem dX12_goOn_35 : decode cX12_goOn 35 = .ok (.getfield 160, 3) := by decide +kernel
theorem dX12_goOn_38 : decode cX12_goOn 38 = .ok (.iconst 1, 1) := by decide +kernel
theorem dX12_goOn_39 : decode cX12_goOn 39 = .ok (.iadd, 1) := by decide +kernel
theorem dX12_goOn_40 : decode cX12_goOn 40 = .ok (.putfield 160, 3) := by decide +kernel
theorem dX12_goOn_43 : decode cX12_goOn 43 = .ok (.goto (-35), 3) := by decide +kernel
theorem dX12_goOn_46 : decode cX12_goOn 46 = .ok (.aload_n 0, 1) := by decide +kernel
theorem dX12_goOn_47 : decode cX12_goOn 47 = .ok (.aload_n 0, 1) := by decide +kernel
theorem dX12_goOn_48 : decode cX12_goOn 48 = .ok (.getfield 160, 3) := by decide +kernel
theorem dX12_goOn_51 : decode cX12_goOn 51 = .ok (.putfield 146, 3) := by decide +kernel
theorem dX12_goOn_54 : decode cX12_goOn 54 = .ok (.aload_n 0, 1) := by decide +kernel
theorem dX12_goOn_55 : decode cX12_goOn 55 = .ok (.getfield 160, 3) := by decide +kernel
theorem dX12_goOn_58 : decode cX12_goOn 58 = .ok (.aload_n 0, 1) := by decide +kernel
theorem dX12_goOn_59 : decode cX12_goOn 59 = .ok (.getfield 153, 3) := by decide +kernel
theorem dX12_goOn_62 : decode cX12_goOn 62 = .ok (.if_icmp .ne 11, 3) := by decide +kernel
theorem dX12_goOn_65 : decode cX12_goOn 65 = .ok (.aload_n 0, 1) := by decide +kernel
theorem dX12_goOn_66 : decode cX12_goOn 66 = .ok (.iconst 1, 1) := by decide +kernel
theorem dX12_goOn_67 : decode cX12_goOn 67 = .ok (.putfield 163, 3) := by decide +kernel
theorem dX12_goOn_70 : decode cX12_goOn 70 = .ok (.goto 247, 3) := by decide +kernel
theorem dX12_goOn_73 : decode cX12_goOn 73 = .ok (.aload_n 0, 1) := by decide +kernel
theorem dX12_goOn_74 : decode cX12_goOn 74 = .ok (.aload_n 0, 1) := by decide +kernel
theorem dX12_goOn_75 : decode cX12_goOn 75 = .ok (.getfield 160, 3) := by decide +kernel
theorem dX12_goOn_78 : decode cX12_goOn 78 = .ok (.invokevirtual 166, 3) := by decide +kernel
theorem dX12_goOn_81 : decode cX12_goOn 81 = .ok (.ifCond .eq 101, 3) := by decide +kernel
theorem dX12_goOn_84 : decode cX12_goOn 84 = .ok (.aload_n 0, 1) := by decide +kernel
theorem dX12_goOn_85 : decode cX12_goOn 85 = .ok (.lconst 0, 1) := by decide +kernel
theorem dX12_goOn_86 : decode cX12_goOn 86 = .ok (.putfield 170, 3) := by decide +kernel
theorem dX12_goOn_89 : decode cX12_goOn 89 = .ok (.aload_n 0, 1) := by decide +kernel
theorem dX12_goOn_90 : decode cX12_goOn 90 = .ok (.aload_n 0, 1) := by decide +kernel
theorem dX12_goOn_91 : decode cX12_goOn 91 = .ok (.getfield 160, 3) := by decide +kernel
theorem dX12_goOn_94 : decode cX12_goOn 94 = .ok (.invokevirtual 166, 3) := by decide +kernel
theorem dX12_goOn_97 : decode cX12_goOn 97 = .ok (.ifCond .eq 59, 3) := by decide +kernel
theorem dX12_goOn_100 : decode cX12_goOn 100 = .ok (.aload_n 0, 1) := by decide +kernel
theorem dX12_goOn_101 : decode cX12_goOn 101 = .ok (.getfield 160, 3) := by decide +kernel
theorem dX12_goOn_104 : decode cX12_goOn 104 = .ok (.aload_n 0, 1) := by decide +kernel
theorem dX12_goOn_105 : decode cX12_goOn 105 = .ok (.getfield 146, 3) := by decide +kernel
theorem dX12_goOn_108 : decode cX12_goOn 108 = .ok (.isub, 1) := by decide +kernel
theorem dX12_goOn_109 : decode cX12_goOn 109 = .ok (.bipush 7, 2) := by decide +kernel
theorem dX12_goOn_111 : decode cX12_goOn 111 = .ok (.if_icmp .ge 32, 3) := by decide +kernel
theorem dX12_goOn_114 : decode cX12_goOn 114 = .ok (.aload_n 0, 1) := by decide +kernel
theorem dX12_goOn_115 : decode cX12_goOn 115 = .ok (.aload_n 0, 1) := by decide +kernel
theorem dX12_goOn_116 : decode cX12_goOn 116 = .ok (.getfield 170, 3) := by decide +kernel
theorem dX12_goOn_119 : decode cX12_goOn 119 = .ok (.ldc2_w 174, 3) := by decide +kernel
theorem dX12_goOn_122 : decode cX12_goOn 122 = .ok (.lmul, 1) := by decide +kernel
theorem dX12_goOn_123 : decode cX12_goOn 123 = .ok (.aload_n 0, 1) := by decide +kernel
theorem dX12_goOn_124 : decode cX12_goOn 124 = .ok (.getfield 13, 3) := by decide +kernel
theorem dX12_goOn_127 : decode cX12_goOn 127 = .ok (.aload_n 0, 1) := by decide +kernel
theorem dX12_goOn_128 : decode cX12_goOn 128 = .ok (.getfield 160, 3) := by decide +kernel
theorem dX12_goOn_131 : decode cX12_goOn 131 = .ok (.iaload, 1) := by decide +kernel
theorem dX12_goOn_132 : decode cX12_goOn 132 = .ok (.i2l, 1) := by decide +kernel
theorem dX12_goOn_133 : decode cX12_goOn 133 = .ok (.ladd, 1) := by decide +kernel
theorem dX12_goOn_134 : decode cX12_goOn 134 = .ok (.ldc2_w 176, 3) := by decide +kernel
theorem dX12_goOn_137 : decode cX12_goOn 137 = .ok (.lsub, 1) := by decide +kernel
theorem dX12_goOn_138 : decode cX12_goOn 138 = .ok (.lconst 1, 1) := by decide +kernel
theorem dX12_goOn_139 : decode cX12_goOn 139 = .ok (.ladd, 1) := by decide +kernel
theorem dX12_goOn_140 : decode cX12_goOn 140 = .ok (.putfield 170, 3) := by decide +kernel
theorem dX12_goOn_143 : decode cX12_goOn 143 = .ok (.aload_n 0, 1) := by decide +kernel
theorem dX12_goOn_144 : decode cX12_goOn 144 = .ok (.dup, 1) := by decide +kernel
theorem dX12_goOn_145 : decode cX12_goOn 145 = .ok (.getfield 160, 3) := by decide +kernel
theorem dX12_goOn_148 : decode cX12_goOn 148 = .ok (.iconst 1, 1) := by decide +kernel
theorem dX12_goOn_149 : decode cX12_goOn 149 = .ok (.iadd, 1) := by decide +kernel
theorem dX12_goOn_150 : decode cX12_goOn 150 = .ok (.putfield 160, 3) := by decide +kernel
theorem dX12_goOn_153 : decode cX12_goOn 153 = .ok (.goto (-64), 3) := by decide +kernel
theorem dX12_goOn_156 : decode cX12_goOn 156 = .ok (.aload_n 0, 1) := by decide +kernel
theorem dX12_goOn_157 : decode cX12_goOn 157 = .ok (.aload_n 0, 1) := by decide +kernel
theorem dX12_goOn_158 : decode cX12_goOn 158 = .ok (.getfield 160, 3) := by decide +kernel
theorem dX12_goOn_161 : decode cX12_goOn 161 = .ok (.aload_n 0, 1) := by decide +kernel
theorem dX12_goOn_162 : decode cX12_goOn 162 = .ok (.getfield 146, 3) := by decide +kernel
theorem dX12_goOn_165 : decode cX12_goOn 165 = .ok (.isub, 1) := by decide +kernel
theorem dX12_goOn_166 : decode cX12_goOn 166 = .ok (.bipush 7, 2) := by decide +kernel
theorem dX12_goOn_168 : decode cX12_goOn 168 = .ok (.if_icmp .le 7, 3) := by decide +kernel
theorem dX12_goOn_171 : decode cX12_goOn 171 = .ok (.iconst 0, 1) := by decide +kernel
theorem dX12_goOn_172 : decode cX12_goOn 172 = .ok (.goto 4, 3) := by decide +kernel
theorem dX12_goOn_175 : decode cX12_goOn 175 = .ok (.iconst 2, 1) := by decide +kernel
theorem dX12_goOn_176 : decode cX12_goOn 176 = .ok (.putfield 163, 3) := by decide +kernel
theorem dX12_goOn_179 : decode cX12_goOn 179 = .ok (.goto 138, 3) := by decide +kernel
theorem dX12_goOn_182 : decode cX12_goOn 182 = .ok (.aload_n 0, 1) := by decide +kernel
theorem dX12_goOn_183 : decode cX12_goOn 183 = .ok (.aload_n 0, 1) := by decide +kernel
theorem dX12_goOn_184 : decode cX12_goOn 184 = .ok (.getfield 160, 3) := by decide +kernel
theorem dX12_goOn_187 : decode cX12_goOn 187 = .ok (.invokevirtual 178, 3) := by decide +kernel
theorem dX12_goOn_190 : decode cX12_goOn 190 = .ok (.ifCond .eq 68, 3) := by decide +kernel
theorem dX12_goOn_193 : decode cX12_goOn 193 = .ok (.aload_n 0, 1) := by decide +kernel
theorem dX12_goOn_194 : decode cX12_goOn 194 = .ok (.aload_n 0, 1) := by decide +kernel
theorem dX12_goOn_195 : decode cX12_goOn 195 = .ok (.getfield 13, 3) := by decide +kernel
theorem dX12_goOn_198 : decode cX12_goOn 198 = .ok (.aload_n 0, 1) := by decide +kernel
theorem dX12_goOn_199 : decode cX12_goOn 199 = .ok (.getfield 160, 3) := by decide +kernel
theorem dX12_goOn_202 : decode cX12_goOn 202 = .ok (.iaload, 1) := by decide +kernel
theorem dX12_goOn_203 : decode cX12_goOn 203 = .ok (.bipush 48, 2) := by decide +kernel
theorem dX12_goOn_205 : decode cX12_goOn 205 = .ok (.isub, 1) := by decide +kernel
theorem dX12_goOn_206 : decode cX12_goOn 206 = .ok (.putfield 181, 3) := by decide +kernel
theorem dX12_goOn_209 : decode cX12_goOn 209 = .ok (.aload_n 0, 1) := by decide +kernel
theorem dX12_goOn_210 : decode cX12_goOn 210 = .ok (.aload_n 0, 1) := by decide +kernel
theorem dX12_goOn_211 : decode cX12_goOn 211 = .ok (.getfield 160, 3) := by decide +kernel
theorem dX12_goOn_214 : decode cX12_goOn 214 = .ok (.invokevirtual 178, 3) := by decide +kernel
theorem dX12_goOn_217 : decode cX12_goOn 217 = .ok (.ifCond .eq 16, 3) := by decide +kernel
theorem dX12_goOn_220 : decode cX12_goOn 220 = .ok (.aload_n 0, 1) := by decide +kernel
theorem dX12_goOn_221 : decode cX12_goOn 221 = .ok (.dup, 1) := by decide +kernel
theorem dX12_goOn_222 : decode cX12_goOn 222 = .ok (.getfield 160, 3) := by decide +kernel
theorem dX12_goOn_225 : decode cX12_goOn 225 = .ok (.iconst 1, 1) := by decide +kernel
theorem dX12_goOn_226 : decode cX12_goOn 226 = .ok (.iadd, 1) := by decide +kernel
theorem dX12_goOn_227 : decode cX12_goOn 227 = .ok (.putfield 160, 3) := by decide +kernel
theorem dX12_goOn_230 : decode cX12_goOn 230 = .ok (.goto (-21), 3) := by decide +kernel
theorem dX12_goOn_233 : decode cX12_goOn 233 = .ok (.aload_n 0, 1) := by decide +kernel
theorem dX12_goOn_234 : decode cX12_goOn 234 = .ok (.aload_n 0, 1) := by decide +kernel
theorem dX12_goOn_235 : decode cX12_goOn 235 = .ok (.getfield 160, 3) := by decide +kernel
theorem dX12_goOn_238 : decode cX12_goOn 238 = .ok (.aload_n 0, 1) := by decide +kernel
theorem dX12_goOn_239 : decode cX12_goOn 239 = .ok (.getfield 146, 3) := by decide +kernel
theorem dX12_goOn_242 : decode cX12_goOn 242 = .ok (.isub, 1) := by decide +kernel
theorem dX12_goOn_243 : decode cX12_goOn 243 = .ok (.iconst 1, 1) := by decide +kernel
theorem dX12_goOn_244 : decode cX12_goOn 244 = .ok (.if_icmp .le 7, 3) := by decide +kernel
theorem dX12_goOn_247 : decode cX12_goOn 247 = .ok (.iconst 0, 1) := by decide +kernel
theorem dX12_goOn_248 : decode cX12_goOn 248 = .ok (.goto 4, 3) := by decide +kernel
theorem dX12_goOn_251 : decode cX12_goOn 251 = .ok (.iconst 3, 1) := by decide +kernel
theorem dX12_goOn_252 : decode cX12_goOn 252 = .ok (.putfield 163, 3) := by decide +kernel
theorem dX12_goOn_255 : decode cX12_goOn 255 = .ok (.goto 62, 3) := by decide +kernel
theorem dX12_goOn_258 : decode cX12_goOn 258 = .ok (.aload_n 0, 1) := by decide +kernel
theorem dX12_goOn_259 : decode cX12_goOn 259 = .ok (.aload_n 0, 1) := by decide +kernel
theorem dX12_goOn_260 : decode cX12_goOn 260 = .ok (.getfield 13, 3) := by decide +kernel
theorem dX12_goOn_263 : decode cX12_goOn 263 = .ok (.aload_n 0, 1) := by decide +kernel
theorem dX12_goOn_264 : decode cX12_goOn 264 = .ok (.getfield 160, 3) := by decide +kernel
theorem dX12_goOn_267 : decode cX12_goOn 267 = .ok (.iaload, 1) := by decide +kernel
theorem dX12_goOn_268 : decode cX12_goOn 268 = .ok (.putfield 184, 3) := by decide +kernel
theorem dX12_goOn_271 : decode cX12_goOn 271 = .ok (.aload_n 0, 1) := by decide +kernel
theorem dX12_goOn_272 : decode cX12_goOn 272 = .ok (.aload_n 0, 1) := by decide +kernel
theorem dX12_goOn_273 : decode cX12_goOn 273 = .ok (.getfield 184, 3) := by decide +kernel
theorem dX12_goOn_276 : decode cX12_goOn 276 = .ok (.bipush 59, 2) := by decide +kernel
theorem dX12_goOn_278 : decode cX12_goOn 278 = .ok (.if_icmp .eq 21, 3) := by decide +kernel
theorem dX12_goOn_281 : decode cX12_goOn 281 = .ok (.aload_n 0, 1) := by decide +kernel
theorem dX12_goOn_282 : decode cX12_goOn 282 = .ok (.getfield 184, 3) := by decide +kernel
theorem dX12_goOn_285 : decode cX12_goOn 285 = .ok (.bipush 40, 2) := by decide +kernel
theorem dX12_goOn_287 : decode cX12_goOn 287 = .ok (.if_icmp .eq 12, 3) := by decide +kernel
theorem dX12_goOn_290 : decode cX12_goOn 290 = .ok (.aload_n 0, 1) := by decide +kernel
theorem dX12_goOn_291 : decode cX12_goOn 291 = .ok (.getfield 184, 3) := by decide +kernel
theorem dX12_goOn_294 : decode cX12_goOn 294 = .ok (.bipush 41, 2) := by decide +kernel
theorem dX12_goOn_296 : decode cX12_goOn 296 = .ok (.if_icmp .ne 7, 3) := by decide +kernel
theorem dX12_goOn_299 : decode cX12_goOn 299 = .ok (.iconst 4, 1) := by decide +kernel
theorem dX12_goOn_300 : decode cX12_goOn 300 = .ok (.goto 4, 3) := by decide +kernel
theorem dX12_goOn_303 : decode cX12_goOn 303 = .ok (.iconst 0, 1) := by decide +kernel
theorem dX12_goOn_304 : decode cX12_goOn 304 = .ok (.putfield 163, 3) := by decide +kernel
theorem dX12_goOn_307 : decode cX12_goOn 307 = .ok (.aload_n 0, 1) := by decide +kernel
theorem dX12_goOn_308 : decode cX12_goOn 308 = .ok (.dup, 1) := by decide +kernel
theorem dX12_goOn_309 : decode cX12_goOn 309 = .ok (.getfield 160, 3) := by decide +kernel
theorem dX12_goOn_312 : decode cX12_goOn 312 = .ok (.iconst 1, 1) := by decide +kernel
theorem dX12_goOn_313 : decode cX12_goOn 313 = .ok (.iadd, 1) := by decide +kernel
theorem dX12_goOn_314 : decode cX12_goOn 314 = .ok (.putfield 160, 3) := by decide +kernel
theorem dX12_goOn_317 : decode cX12_goOn 317 = .ok (.return_, 1) := by decide +kernel
theorem dX12_wordOf_0 : decode cX12_wordOf 0 = .ok (.lconst 0, 1) := by decide +kernel
theorem dX12_wordOf_1 : decode cX12_wordOf 1 = .ok (.lstore_n 1, 1) := by decide +kernel
theorem dX12_wordOf_2 : decode cX12_wordOf 2 = .ok (.iconst 0, 1) := by decide +kernel
theorem dX12_wordOf_3 : decode cX12_wordOf 3 = .ok (.istore_n 3, 1) := by decide +kernel
theorem dX12_wordOf_4 : decode cX12_wordOf 4 = .ok (.iload_n 3, 1) := by decide +kernel
theorem dX12_wordOf_5 : decode cX12_wordOf 5 = .ok (.aload_n 0, 1) := by decide +kernel
theorem dX12_wordOf_6 : decode cX12_wordOf 6 = .ok (.invokevirtual 187, 3) := by decide +kernel
theorem dX12_wordOf_9 : decode cX12_wordOf 9 = .ok (.if_icmp .ge 28, 3) := by decide +kernel
theorem dX12_wordOf_12 : decode cX12_wordOf 12 = .ok (.lload_n 1, 1) := by decide +kernel
theorem dX12_wordOf_13 : decode cX12_wordOf 13 = .ok (.ldc2_w 174, 3) := by decide +kernel
theorem dX12_wordOf_16 : decode cX12_wordOf 16 = .ok (.lmul, 1) := by decide +kernel
theorem dX12_wordOf_17 : decode cX12_wordOf 17 = .ok (.aload_n 0, 1) := by decide +kernel
theorem dX12_wordOf_18 : decode cX12_wordOf 18 = .ok (.iload_n 3, 1) := by decide +kernel
theorem dX12_wordOf_19 : decode cX12_wordOf 19 = .ok (.invokevirtual 193, 3) := by decide +kernel
theorem dX12_wordOf_22 : decode cX12_wordOf 22 = .ok (.i2l, 1) := by decide +kernel
theorem dX12_wordOf_23 : decode cX12_wordOf 23 = .ok (.ladd, 1) := by decide +kernel
theorem dX12_wordOf_24 : decode cX12_wordOf 24 = .ok (.ldc2_w 176, 3) := by decide +kernel
theorem dX12_wordOf_27 : decode cX12_wordOf 27 = .ok (.lsub, 1) := by decide +kernel
theorem dX12_wordOf_28 : decode cX12_wordOf 28 = .ok (.lconst 1, 1) := by decide +kernel
theorem dX12_wordOf_29 : decode cX12_wordOf 29 = .ok (.ladd, 1) := by decide +kernel
theorem dX12_wordOf_30 : decode cX12_wordOf 30 = .ok (.lstore_n 1, 1) := by decide +kernel
theorem dX12_wordOf_31 : decode cX12_wordOf 31 = .ok (.iinc 3 1, 3) := by decide +kernel
theorem dX12_wordOf_34 : decode cX12_wordOf 34 = .ok (.goto (-30), 3) := by decide +kernel
theorem dX12_wordOf_37 : decode cX12_wordOf 37 = .ok (.lload_n 1, 1) := by decide +kernel
theorem dX12_wordOf_38 : decode cX12_wordOf 38 = .ok (.lreturn, 1) := by decide +kernel
theorem dX12_isWord_0 : decode cX12_isWord 0 = .ok (.aload_n 0, 1) := by decide +kernel
theorem dX12_isWord_1 : decode cX12_isWord 1 = .ok (.getfield 140, 3) := by decide +kernel
theorem dX12_isWord_4 : decode cX12_isWord 4 = .ok (.ifCond .ne 27, 3) := by decide +kernel
theorem dX12_isWord_7 : decode cX12_isWord 7 = .ok (.aload_n 0, 1) := by decide +kernel
theorem dX12_isWord_8 : decode cX12_isWord 8 = .ok (.getfield 163, 3) := by decide +kernel
theorem dX12_isWord_11 : decode cX12_isWord 11 = .ok (.iconst 2, 1) := by decide +kernel
theorem dX12_isWord_12 : decode cX12_isWord 12 = .ok (.if_icmp .ne 19, 3) := by decide +kernel
theorem dX12_isWord_15 : decode cX12_isWord 15 = .ok (.aload_n 0, 1) := by decide +kernel
theorem dX12_isWord_16 : decode cX12_isWord 16 = .ok (.getfield 170, 3) := by decide +kernel
theorem dX12_isWord_19 : decode cX12_isWord 19 = .ok (.aload_n 1, 1) := by decide +kernel
theorem dX12_isWord_20 : decode cX12_isWord 20 = .ok (.invokestatic 197, 3) := by decide +kernel
theorem dX12_isWord_23 : decode cX12_isWord 23 = .ok (.lcmp, 1) := by decide +kernel
theorem dX12_isWord_24 : decode cX12_isWord 24 = .ok (.ifCond .ne 7, 3) := by decide +kernel
theorem dX12_isWord_27 : decode cX12_isWord 27 = .ok (.iconst 1, 1) := by decide +kernel
theorem dX12_isWord_28 : decode cX12_isWord 28 = .ok (.goto 4, 3) := by decide +kernel
theorem dX12_isWord_31 : decode cX12_isWord 31 = .ok (.iconst 0, 1) := by decide +kernel
theorem dX12_isWord_32 : decode cX12_isWord 32 = .ok (.ireturn, 1) := by decide +kernel
theorem dX12_isSign_0 : decode cX12_isSign 0 = .ok (.aload_n 0, 1) := by decide +kernel
theorem dX12_isSign_1 : decode cX12_isSign 1 = .ok (.getfield 140, 3) := by decide +kernel
theorem dX12_isSign_4 : decode cX12_isSign 4 = .ok (.ifCond .ne 23, 3) := by decide +kernel
theorem dX12_isSign_7 : decode cX12_isSign 7 = .ok (.aload_n 0, 1) := by decide +kernel
theorem dX12_isSign_8 : decode cX12_isSign 8 = .ok (.getfield 163, 3) := by decide +kernel
theorem dX12_isSign_11 : decode cX12_isSign 11 = .ok (.iconst 4, 1) := by decide +kernel
theorem dX12_isSign_12 : decode cX12_isSign 12 = .ok (.if_icmp .ne 15, 3) := by decide +kernel
theorem dX12_isSign_15 : decode cX12_isSign 15 = .ok (.aload_n 0, 1) := by decide +kernel
theorem dX12_isSign_16 : decode cX12_isSign 16 = .ok (.getfield 184, 3) := by decide +kernel
theorem dX12_isSign_19 : decode cX12_isSign 19 = .ok (.iload_n 1, 1) := by decide +kernel
theorem dX12_isSign_20 : decode cX12_isSign 20 = .ok (.if_icmp .ne 7, 3) := by decide +kernel
theorem dX12_isSign_23 : decode cX12_isSign 23 = .ok (.iconst 1, 1) := by decide +kernel
theorem dX12_isSign_24 : decode cX12_isSign 24 = .ok (.goto 4, 3) := by decide +kernel
theorem dX12_isSign_27 : decode cX12_isSign 27 = .ok (.iconst 0, 1) := by decide +kernel
theorem dX12_isSign_28 : decode cX12_isSign 28 = .ok (.ireturn, 1) := by decide +kernel
theorem dX12_needs_0 : decode cX12_needs 0 = .ok (.aload_n 0, 1) := by decide +kernel
theorem dX12_needs_1 : decode cX12_needs 1 = .ok (.aload_n 1, 1) := by decide +kernel
theorem dX12_needs_2 : decode cX12_needs 2 = .ok (.invokevirtual 201, 3) := by decide +kernel
theorem dX12_needs_5 : decode cX12_needs 5 = .ok (.ifCond .ne 8, 3) := by decide +kernel
theorem dX12_needs_8 : decode cX12_needs 8 = .ok (.aload_n 0, 1) := by decide +kernel
theorem dX12_needs_9 : decode cX12_needs 9 = .ok (.iconst 1, 1) := by decide +kernel
theorem dX12_needs_10 : decode cX12_needs 10 = .ok (.invokevirtual 205, 3) := by decide +kernel
theorem dX12_needs_13 : decode cX12_needs 13 = .ok (.aload_n 0, 1) := by decide +kernel
theorem dX12_needs_14 : decode cX12_needs 14 = .ok (.invokevirtual 209, 3) := by decide +kernel
theorem dX12_needs_17 : decode cX12_needs 17 = .ok (.return_, 1) := by decide +kernel
theorem dX12_needsEnd_0 : decode cX12_needsEnd 0 = .ok (.aload_n 0, 1) := by decide +kernel
theorem dX12_needsEnd_1 : decode cX12_needsEnd 1 = .ok (.getfield 140, 3) := by decide +kernel
theorem dX12_needsEnd_4 : decode cX12_needsEnd 4 = .ok (.ifCond .ne 16, 3) := by decide +kernel
theorem dX12_needsEnd_7 : decode cX12_needsEnd 7 = .ok (.aload_n 0, 1) := by decide +kernel
theorem dX12_needsEnd_8 : decode cX12_needsEnd 8 = .ok (.getfield 163, 3) := by decide +kernel
theorem dX12_needsEnd_11 : decode cX12_needsEnd 11 = .ok (.iconst 1, 1) := by decide +kernel
theorem dX12_needsEnd_12 : decode cX12_needsEnd 12 = .ok (.if_icmp .eq 8, 3) := by decide +kernel
theorem dX12_needsEnd_15 : decode cX12_needsEnd 15 = .ok (.aload_n 0, 1) := by decide +kernel
theorem dX12_needsEnd_16 : decode cX12_needsEnd 16 = .ok (.iconst 1, 1) := by decide +kernel
theorem dX12_needsEnd_17 : decode cX12_needsEnd 17 = .ok (.invokevirtual 205, 3) := by decide +kernel
theorem dX12_needsEnd_20 : decode cX12_needsEnd 20 = .ok (.return_, 1) := by decide +kernel
theorem dX12_readWhole_0 : decode cX12_readWhole 0 = .ok (.aload_n 0, 1) := by decide +kernel
theorem dX12_readWhole_1 : decode cX12_readWhole 1 = .ok (.getfield 163, 3) := by decide +kernel
theorem dX12_readWhole_4 : decode cX12_readWhole 4 = .ok (.iconst 3, 1) := by decide +kernel
theorem dX12_readWhole_5 : decode cX12_readWhole 5 = .ok (.if_icmp .eq 11, 3) := by decide +kernel
theorem dX12_readWhole_8 : decode cX12_readWhole 8 = .ok (.aload_n 0, 1) := by decide +kernel
theorem dX12_readWhole_9 : decode cX12_readWhole 9 = .ok (.iconst 1, 1) := by decide +kernel
theorem dX12_readWhole_10 : decode cX12_readWhole 10 = .ok (.invokevirtual 205, 3) := by decide +kernel
theorem dX12_readWhole_13 : decode cX12_readWhole 13 = .ok (.goto 20, 3) := by decide +kernel
theorem dX12_readWhole_16 : decode cX12_readWhole 16 = .ok (.aload_n 0, 1) := by decide +kernel
theorem dX12_readWhole_17 : decode cX12_readWhole 17 = .ok (.getfield 181, 3) := by decide +kernel
theorem dX12_readWhole_20 : decode cX12_readWhole 20 = .ok (.iload_n 1, 1) := by decide +kernel
theorem dX12_readWhole_21 : decode cX12_readWhole 21 = .ok (.iload_n 2, 1) := by decide +kernel
theorem dX12_readWhole_22 : decode cX12_readWhole 22 = .ok (.invokestatic 156, 3) := by decide +kernel
theorem dX12_readWhole_25 : decode cX12_readWhole 25 = .ok (.ifCond .ne 8, 3) := by decide +kernel
theorem dX12_readWhole_28 : decode cX12_readWhole 28 = .ok (.aload_n 0, 1) := by decide +kernel
theorem dX12_readWhole_29 : decode cX12_readWhole 29 = .ok (.iconst 2, 1) := by decide +kernel
theorem dX12_readWhole_30 : decode cX12_readWhole 30 = .ok (.invokevirtual 205, 3) := by decide +kernel
theorem dX12_readWhole_33 : decode cX12_readWhole 33 = .ok (.aload_n 0, 1) := by decide +kernel
theorem dX12_readWhole_34 : decode cX12_readWhole 34 = .ok (.getfield 181, 3) := by decide +kernel
theorem dX12_readWhole_37 : decode cX12_readWhole 37 = .ok (.istore_n 3, 1) := by decide +kernel
theorem dX12_readWhole_38 : decode cX12_readWhole 38 = .ok (.aload_n 0, 1) := by decide +kernel
theorem dX12_readWhole_39 : decode cX12_readWhole 39 = .ok (.invokevirtual 209, 3) := by decide +kernel
theorem dX12_readWhole_42 : decode cX12_readWhole 42 = .ok (.iload_n 3, 1) := by decide +kernel
theorem dX12_readWhole_43 : decode cX12_readWhole 43 = .ok (.ireturn, 1) := by decide +kernel
theorem dX12_begins_0 : decode cX12_begins 0 = .ok (.aload_n 0, 1) := by decide +kernel
theorem dX12_begins_1 : decode cX12_begins 1 = .ok (.iload_n 1, 1) := by decide +kernel
theorem dX12_begins_2 : decode cX12_begins 2 = .ok (.putfield 153, 3) := by decide +kernel
theorem dX12_begins_5 : decode cX12_begins 5 = .ok (.aload_n 0, 1) := by decide +kernel
theorem dX12_begins_6 : decode cX12_begins 6 = .ok (.iconst 0, 1) := by decide +kernel
theorem dX12_begins_7 : decode cX12_begins 7 = .ok (.putfield 137, 3) := by decide +kernel
theorem dX12_begins_10 : decode cX12_begins 10 = .ok (.aload_n 0, 1) := by decide +kernel
theorem dX12_begins_11 : decode cX12_begins 11 = .ok (.iconst 0, 1) := by decide +kernel
theorem dX12_begins_12 : decode cX12_begins 12 = .ok (.putfield 160, 3) := by decide +kernel
theorem dX12_begins_15 : decode cX12_begins 15 = .ok (.aload_n 0, 1) := by decide +kernel
theorem dX12_begins_16 : decode cX12_begins 16 = .ok (.iconst 0, 1) := by decide +kernel
theorem dX12_begins_17 : decode cX12_begins 17 = .ok (.putfield 140, 3) := by decide +kernel
theorem dX12_begins_20 : decode cX12_begins 20 = .ok (.aload_n 0, 1) := by decide +kernel
theorem dX12_begins_21 : decode cX12_begins 21 = .ok (.invokevirtual 209, 3) := by decide +kernel
theorem dX12_begins_24 : decode cX12_begins 24 = .ok (.return_, 1) := by decide +kernel
theorem dX12_isLong_0 : decode cX12_isLong 0 = .ok (.iload_n 1, 1) := by decide +kernel
theorem dX12_isLong_1 : decode cX12_isLong 1 = .ok (.iconst 0, 1) := by decide +kernel
theorem dX12_isLong_2 : decode cX12_isLong 2 = .ok (.aload_n 0, 1) := by decide +kernel
theorem dX12_isLong_3 : decode cX12_isLong 3 = .ok (.getfield 137, 3) := by decide +kernel
theorem dX12_isLong_6 : decode cX12_isLong 6 = .ok (.invokestatic 156, 3) := by decide +kernel
theorem dX12_isLong_9 : decode cX12_isLong 9 = .ok (.ifCond .ne 7, 3) := by decide +kernel
theorem dX12_isLong_12 : decode cX12_isLong 12 = .ok (.iconst 1, 1) := by decide +kernel
theorem dX12_isLong_13 : decode cX12_isLong 13 = .ok (.goto 4, 3) := by decide +kernel
theorem dX12_isLong_16 : decode cX12_isLong 16 = .ok (.iconst 0, 1) := by decide +kernel
theorem dX12_isLong_17 : decode cX12_isLong 17 = .ok (.ireturn, 1) := by decide +kernel
theorem dX12_faulty_0 : decode cX12_faulty 0 = .ok (.aload_n 0, 1) := by decide +kernel
theorem dX12_faulty_1 : decode cX12_faulty 1 = .ok (.iconst 4, 1) := by decide +kernel
theorem dX12_faulty_2 : decode cX12_faulty 2 = .ok (.putfield 134, 3) := by decide +kernel
theorem dX12_faulty_5 : decode cX12_faulty 5 = .ok (.aload_n 0, 1) := by decide +kernel
theorem dX12_faulty_6 : decode cX12_faulty 6 = .ok (.aload_n 0, 1) := by decide +kernel
theorem dX12_faulty_7 : decode cX12_faulty 7 = .ok (.getfield 143, 3) := by decide +kernel
theorem dX12_faulty_10 : decode cX12_faulty 10 = .ok (.putfield 9, 3) := by decide +kernel
theorem dX12_faulty_13 : decode cX12_faulty 13 = .ok (.iconst (-1), 1) := by decide +kernel
theorem dX12_faulty_14 : decode cX12_faulty 14 = .ok (.ireturn, 1) := by decide +kernel
theorem dX12_fault_0 : decode cX12_fault 0 = .ok (.aload_n 0, 1) := by decide +kernel
theorem dX12_fault_1 : decode cX12_fault 1 = .ok (.iconst 0, 1) := by decide +kernel
theorem dX12_fault_2 : decode cX12_fault 2 = .ok (.putfield 131, 3) := by decide +kernel
theorem dX12_fault_5 : decode cX12_fault 5 = .ok (.aload_n 0, 1) := by decide +kernel
theorem dX12_fault_6 : decode cX12_fault 6 = .ok (.getfield 140, 3) := by decide +kernel
theorem dX12_fault_9 : decode cX12_fault 9 = .ok (.ireturn, 1) := by decide +kernel
theorem dX12_where_0 : decode cX12_where 0 = .ok (.aload_n 0, 1) := by decide +kernel
theorem dX12_where_1 : decode cX12_where 1 = .ok (.iconst 0, 1) := by decide +kernel
theorem dX12_where_2 : decode cX12_where 2 = .ok (.putfield 131, 3) := by decide +kernel
theorem dX12_where_5 : decode cX12_where 5 = .ok (.aload_n 0, 1) := by decide +kernel
theorem dX12_where_6 : decode cX12_where 6 = .ok (.getfield 9, 3) := by decide +kernel
theorem dX12_where_9 : decode cX12_where 9 = .ok (.ireturn, 1) := by decide +kernel
theorem dX12_readAll_0 : decode cX12_readAll 0 = .ok (.aload_n 0, 1) := by decide +kernel
theorem dX12_readAll_1 : decode cX12_readAll 1 = .ok (.iconst 0, 1) := by decide +kernel
theorem dX12_readAll_2 : decode cX12_readAll 2 = .ok (.putfield 212, 3) := by decide +kernel
theorem dX12_readAll_5 : decode cX12_readAll 5 = .ok (.aload_n 0, 1) := by decide +kernel
theorem dX12_readAll_6 : decode cX12_readAll 6 = .ok (.iconst 0, 1) := by decide +kernel
theorem dX12_readAll_7 : decode cX12_readAll 7 = .ok (.putfield 215, 3) := by decide +kernel
theorem dX12_readAll_10 : decode cX12_readAll 10 = .ok (.iconst 0, 1) := by decide +kernel
theorem dX12_readAll_11 : decode cX12_readAll 11 = .ok (.istore_n 1, 1) := by decide +kernel
theorem dX12_readAll_12 : decode cX12_readAll 12 = .ok (.iload_n 1, 1) := by decide +kernel
theorem dX12_readAll_13 : decode cX12_readAll 13 = .ok (.bipush 48, 2) := by decide +kernel
theorem dX12_readAll_15 : decode cX12_readAll 15 = .ok (.if_icmp .ge 19, 3) := by decide +kernel
theorem dX12_readAll_18 : decode cX12_readAll 18 = .ok (.aload_n 0, 1) := by decide +kernel
theorem dX12_readAll_19 : decode cX12_readAll 19 = .ok (.getfield 26, 3) := by decide +kernel
theorem dX12_readAll_22 : decode cX12_readAll 22 = .ok (.bipush 48, 2) := by decide +kernel
theorem dX12_readAll_24 : decode cX12_readAll 24 = .ok (.iload_n 1, 1) := by decide +kernel
theorem dX12_readAll_25 : decode cX12_readAll 25 = .ok (.iadd, 1) := by decide +kernel
theorem dX12_readAll_26 : decode cX12_readAll 26 = .ok (.iconst 0, 1) := by decide +kernel
theorem dX12_readAll_27 : decode cX12_readAll 27 = .ok (.iastore, 1) := by decide +kernel
theorem dX12_readAll_28 : decode cX12_readAll 28 = .ok (.iinc 1 1, 3) := by decide +kernel
theorem dX12_readAll_31 : decode cX12_readAll 31 = .ok (.goto (-19), 3) := by decide +kernel
theorem dX12_readAll_34 : decode cX12_readAll 34 = .ok (.aload_n 0, 1) := by decide +kernel
theorem dX12_readAll_35 : decode cX12_readAll 35 = .ok (.invokevirtual 218, 3) := by decide +kernel
theorem dX12_readAll_38 : decode cX12_readAll 38 = .ok (.aload_n 0, 1) := by decide +kernel
theorem dX12_readAll_39 : decode cX12_readAll 39 = .ok (.bipush 59, 2) := by decide +kernel
theorem dX12_readAll_41 : decode cX12_readAll 41 = .ok (.invokevirtual 221, 3) := by decide +kernel
theorem dX12_readAll_44 : decode cX12_readAll 44 = .ok (.ifCond .eq 14, 3) := by decide +kernel
theorem dX12_readAll_47 : decode cX12_readAll 47 = .ok (.aload_n 0, 1) := by decide +kernel
theorem dX12_readAll_48 : decode cX12_readAll 48 = .ok (.invokevirtual 209, 3) := by decide +kernel
theorem dX12_readAll_51 : decode cX12_readAll 51 = .ok (.aload_n 0, 1) := by decide +kernel
theorem dX12_readAll_52 : decode cX12_readAll 52 = .ok (.invokevirtual 218, 3) := by decide +kernel
theorem dX12_readAll_55 : decode cX12_readAll 55 = .ok (.goto (-17), 3) := by decide +kernel
theorem dX12_readAll_58 : decode cX12_readAll 58 = .ok (.aload_n 0, 1) := by decide +kernel
theorem dX12_readAll_59 : decode cX12_readAll 59 = .ok (.invokevirtual 224, 3) := by decide +kernel
theorem dX12_readAll_62 : decode cX12_readAll 62 = .ok (.aload_n 0, 1) := by decide +kernel
theorem dX12_readAll_63 : decode cX12_readAll 63 = .ok (.getfield 140, 3) := by decide +kernel
theorem dX12_readAll_66 : decode cX12_readAll 66 = .ok (.ifCond .ne 15, 3) := by decide +kernel
theorem dX12_readAll_69 : decode cX12_readAll 69 = .ok (.aload_n 0, 1) := by decide +kernel
theorem dX12_readAll_70 : decode cX12_readAll 70 = .ok (.getfield 215, 3) := by decide +kernel
theorem dX12_readAll_73 : decode cX12_readAll 73 = .ok (.ifCond .ne 8, 3) := by decide +kernel
theorem dX12_readAll_76 : decode cX12_readAll 76 = .ok (.aload_n 0, 1) := by decide +kernel
theorem dX12_readAll_77 : decode cX12_readAll 77 = .ok (.iconst 5, 1) := by decide +kernel
theorem dX12_readAll_78 : decode cX12_readAll 78 = .ok (.invokevirtual 205, 3) := by decide +kernel
theorem dX12_readAll_81 : decode cX12_readAll 81 = .ok (.return_, 1) := by decide +kernel
theorem dX12_isOwn_0 : decode cX12_isOwn 0 = .ok (.aload_n 0, 1) := by decide +kernel
theorem dX12_isOwn_1 : decode cX12_isOwn 1 = .ok (.ldc 227, 2) := by decide +kernel
theorem dX12_isOwn_3 : decode cX12_isOwn 3 = .ok (.invokevirtual 201, 3) := by decide +kernel
theorem dX12_isOwn_6 : decode cX12_isOwn 6 = .ok (.ifCond .ne 48, 3) := by decide +kernel
theorem dX12_isOwn_9 : decode cX12_isOwn 9 = .ok (.aload_n 0, 1) := by decide +kernel
theorem dX12_isOwn_10 : decode cX12_isOwn 10 = .ok (.ldc 229, 2) := by decide +kernel
theorem dX12_isOwn_12 : decode cX12_isOwn 12 = .ok (.invokevirtual 201, 3) := by decide +kernel
theorem dX12_isOwn_15 : decode cX12_isOwn 15 = .ok (.ifCond .ne 39, 3) := by decide +kernel
theorem dX12_isOwn_18 : decode cX12_isOwn 18 = .ok (.aload_n 0, 1) := by decide +kernel
theorem dX12_isOwn_19 : decode cX12_isOwn 19 = .ok (.ldc 231, 2) := by decide +kernel
theorem dX12_isOwn_21 : decode cX12_isOwn 21 = .ok (.invokevirtual 201, 3) := by decide +kernel
theorem dX12_isOwn_24 : decode cX12_isOwn 24 = .ok (.ifCond .ne 30, 3) := by decide +kernel
theorem dX12_isOwn_27 : decode cX12_isOwn 27 = .ok (.aload_n 0, 1) := by decide +kernel
theorem dX12_isOwn_28 : decode cX12_isOwn 28 = .ok (.ldc 232, 2) := by decide +kernel
theorem dX12_isOwn_30 : decode cX12_isOwn 30 = .ok (.invokevirtual 201, 3) := by decide +kernel
theorem dX12_isOwn_33 : decode cX12_isOwn 33 = .ok (.ifCond .ne 21, 3) := by decide +kernel
theorem dX12_isOwn_36 : decode cX12_isOwn 36 = .ok (.aload_n 0, 1) := by decide +kernel
theorem dX12_isOwn_37 : decode cX12_isOwn 37 = .ok (.ldc 233, 2) := by decide +kernel
theorem dX12_isOwn_39 : decode cX12_isOwn 39 = .ok (.invokevirtual 201, 3) := by decide +kernel
theorem dX12_isOwn_42 : decode cX12_isOwn 42 = .ok (.ifCond .ne 12, 3) := by decide +kernel
theorem dX12_isOwn_45 : decode cX12_isOwn 45 = .ok (.aload_n 0, 1) := by decide +kernel
theorem dX12_isOwn_46 : decode cX12_isOwn 46 = .ok (.ldc 235, 2) := by decide +kernel
theorem dX12_isOwn_48 : decode cX12_isOwn 48 = .ok (.invokevirtual 201, 3) := by decide +kernel
theorem dX12_isOwn_51 : decode cX12_isOwn 51 = .ok (.ifCond .eq 7, 3) := by decide +kernel
theorem dX12_isOwn_54 : decode cX12_isOwn 54 = .ok (.iconst 1, 1) := by decide +kernel
theorem dX12_isOwn_55 : decode cX12_isOwn 55 = .ok (.goto 4, 3) := by decide +kernel
theorem dX12_isOwn_58 : decode cX12_isOwn 58 = .ok (.iconst 0, 1) := by decide +kernel
theorem dX12_isOwn_59 : decode cX12_isOwn 59 = .ok (.ireturn, 1) := by decide +kernel
theorem dX12_readLine_0 : decode cX12_readLine 0 = .ok (.aload_n 0, 1) := by decide +kernel
theorem dX12_readLine_1 : decode cX12_readLine 1 = .ok (.ldc 227, 2) := by decide +kernel
theorem dX12_readLine_3 : decode cX12_readLine 3 = .ok (.invokevirtual 201, 3) := by decide +kernel
theorem dX12_readLine_6 : decode cX12_readLine 6 = .ok (.ifCond .eq 10, 3) := by decide +kernel
theorem dX12_readLine_9 : decode cX12_readLine 9 = .ok (.aload_n 0, 1) := by decide +kernel
theorem dX12_readLine_10 : decode cX12_readLine 10 = .ok (.invokevirtual 237, 3) := by decide +kernel
theorem dX12_readLine_13 : decode cX12_readLine 13 = .ok (.goto 74, 3) := by decide +kernel
theorem dX12_readLine_16 : decode cX12_readLine 16 = .ok (.aload_n 0, 1) := by decide +kernel
theorem dX12_readLine_17 : decode cX12_readLine 17 = .ok (.ldc 229, 2) := by decide +kernel
theorem dX12_readLine_19 : decode cX12_readLine 19 = .ok (.invokevirtual 201, 3) := by decide +kernel
theorem dX12_readLine_22 : decode cX12_readLine 22 = .ok (.ifCond .eq 10, 3) := by decide +kernel
theorem dX12_readLine_25 : decode cX12_readLine 25 = .ok (.aload_n 0, 1) := by decide +kernel
theorem dX12_readLine_26 : decode cX12_readLine 26 = .ok (.invokevirtual 239, 3) := by decide +kernel
theorem dX12_readLine_29 : decode cX12_readLine 29 = .ok (.goto 58, 3) := by decide +kernel
theorem dX12_readLine_32 : decode cX12_readLine 32 = .ok (.aload_n 0, 1) := by decide +kernel
theorem dX12_readLine_33 : decode cX12_readLine 33 = .ok (.ldc 232, 2) := by decide +kernel
theorem dX12_readLine_35 : decode cX12_readLine 35 = .ok (.invokevirtual 201, 3) := by decide +kernel
theorem dX12_readLine_38 : decode cX12_readLine 38 = .ok (.ifCond .eq 11, 3) := by decide +kernel
theorem dX12_readLine_41 : decode cX12_readLine 41 = .ok (.aload_n 0, 1) := by decide +kernel
theorem dX12_readLine_42 : decode cX12_readLine 42 = .ok (.iconst 1, 1) := by decide +kernel
theorem dX12_readLine_43 : decode cX12_readLine 43 = .ok (.invokevirtual 242, 3) := by decide +kernel
theorem dX12_readLine_46 : decode cX12_readLine 46 = .ok (.goto 41, 3) := by decide +kernel
theorem dX12_readLine_49 : decode cX12_readLine 49 = .ok (.aload_n 0, 1) := by decide +kernel
theorem dX12_readLine_50 : decode cX12_readLine 50 = .ok (.ldc 233, 2) := by decide +kernel
theorem dX12_readLine_52 : decode cX12_readLine 52 = .ok (.invokevirtual 201, 3) := by decide +kernel
theorem dX12_readLine_55 : decode cX12_readLine 55 = .ok (.ifCond .eq 11, 3) := by decide +kernel
theorem dX12_readLine_58 : decode cX12_readLine 58 = .ok (.aload_n 0, 1) := by decide +kernel
theorem dX12_readLine_59 : decode cX12_readLine 59 = .ok (.iconst 0, 1) := by decide +kernel
theorem dX12_readLine_60 : decode cX12_readLine 60 = .ok (.invokevirtual 242, 3) := by decide +kernel
theorem dX12_readLine_63 : decode cX12_readLine 63 = .ok (.goto 24, 3) := by decide +kernel
theorem dX12_readLine_66 : decode cX12_readLine 66 = .ok (.aload_n 0, 1) := by decide +kernel
theorem dX12_readLine_67 : decode cX12_readLine 67 = .ok (.ldc 235, 2) := by decide +kernel
theorem dX12_readLine_69 : decode cX12_readLine 69 = .ok (.invokevirtual 201, 3) := by decide +kernel
theorem dX12_readLine_72 : decode cX12_readLine 72 = .ok (.ifCond .eq 10, 3) := by decide +kernel
theorem dX12_readLine_75 : decode cX12_readLine 75 = .ok (.aload_n 0, 1) := by decide +kernel
theorem dX12_readLine_76 : decode cX12_readLine 76 = .ok (.invokevirtual 246, 3) := by decide +kernel
theorem dX12_readLine_79 : decode cX12_readLine 79 = .ok (.goto 8, 3) := by decide +kernel
theorem dX12_readLine_82 : decode cX12_readLine 82 = .ok (.aload_n 0, 1) := by decide +kernel
theorem dX12_readLine_83 : decode cX12_readLine 83 = .ok (.iconst 1, 1) := by decide +kernel
theorem dX12_readLine_84 : decode cX12_readLine 84 = .ok (.invokevirtual 205, 3) := by decide +kernel
theorem dX12_readLine_87 : decode cX12_readLine 87 = .ok (.return_, 1) := by decide +kernel
theorem dX12_readLetters_0 : decode cX12_readLetters 0 = .ok (.aload_n 0, 1) := by decide +kernel
theorem dX12_readLetters_1 : decode cX12_readLetters 1 = .ok (.getfield 212, 3) := by decide +kernel
theorem dX12_readLetters_4 : decode cX12_readLetters 4 = .ok (.ifCond .le 8, 3) := by decide +kernel
theorem dX12_readLetters_7 : decode cX12_readLetters 7 = .ok (.aload_n 0, 1) := by decide +kernel
theorem dX12_readLetters_8 : decode cX12_readLetters 8 = .ok (.iconst 3, 1) := by decide +kernel
theorem dX12_readLetters_9 : decode cX12_readLetters 9 = .ok (.invokevirtual 205, 3) := by decide +kernel
theorem dX12_readLetters_12 : decode cX12_readLetters 12 = .ok (.aload_n 0, 1) := by decide +kernel
theorem dX12_readLetters_13 : decode cX12_readLetters 13 = .ok (.invokevirtual 209, 3) := by decide +kernel
theorem dX12_readLetters_16 : decode cX12_readLetters 16 = .ok (.aload_n 0, 1) := by decide +kernel
theorem dX12_readLetters_17 : decode cX12_readLetters 17 = .ok (.iconst 1, 1) := by decide +kernel
theorem dX12_readLetters_18 : decode cX12_readLetters 18 = .ok (.iconst 3, 1) := by decide +kernel
theorem dX12_readLetters_19 : decode cX12_readLetters 19 = .ok (.invokevirtual 249, 3) := by decide +kernel
theorem dX12_readLetters_22 : decode cX12_readLetters 22 = .ok (.istore_n 1, 1) := by decide +kernel
theorem dX12_readLetters_23 : decode cX12_readLetters 23 = .ok (.aload_n 0, 1) := by decide +kernel
theorem dX12_readLetters_24 : decode cX12_readLetters 24 = .ok (.getfield 140, 3) := by decide +kernel
theorem dX12_readLetters_27 : decode cX12_readLetters 27 = .ok (.ifCond .ne 8, 3) := by decide +kernel
theorem dX12_readLetters_30 : decode cX12_readLetters 30 = .ok (.aload_n 0, 1) := by decide +kernel
theorem dX12_readLetters_31 : decode cX12_readLetters 31 = .ok (.iload_n 1, 1) := by decide +kernel
theorem dX12_readLetters_32 : decode cX12_readLetters 32 = .ok (.putfield 212, 3) := by decide +kernel
theorem dX12_readLetters_35 : decode cX12_readLetters 35 = .ok (.return_, 1) := by decide +kernel
theorem dX12_readAuto_0 : decode cX12_readAuto 0 = .ok (.aload_n 0, 1) := by decide +kernel
theorem dX12_readAuto_1 : decode cX12_readAuto 1 = .ok (.getfield 215, 3) := by decide +kernel
theorem dX12_readAuto_4 : decode cX12_readAuto 4 = .ok (.iconst 3, 1) := by decide +kernel
theorem dX12_readAuto_5 : decode cX12_readAuto 5 = .ok (.if_icmp .ne 8, 3) := by decide +kernel
theorem dX12_readAuto_8 : decode cX12_readAuto 8 = .ok (.aload_n 0, 1) := by decide +kernel
theorem dX12_readAuto_9 : decode cX12_readAuto 9 = .ok (.iconst 4, 1) := by decide +kernel
theorem dX12_readAuto_10 : decode cX12_readAuto 10 = .ok (.invokevirtual 205, 3) := by decide +kernel
theorem dX12_readAuto_13 : decode cX12_readAuto 13 = .ok (.aload_n 0, 1) := by decide +kernel
theorem dX12_readAuto_14 : decode cX12_readAuto 14 = .ok (.getfield 212, 3) := by decide +kernel
theorem dX12_readAuto_17 : decode cX12_readAuto 17 = .ok (.ifCond .ne 8, 3) := by decide +kernel
theorem dX12_readAuto_20 : decode cX12_readAuto 20 = .ok (.aload_n 0, 1) := by decide +kernel
theorem dX12_readAuto_21 : decode cX12_readAuto 21 = .ok (.iconst 5, 1) := by decide +kernel
theorem dX12_readAuto_22 : decode cX12_readAuto 22 = .ok (.invokevirtual 205, 3) := by decide +kernel
theorem dX12_readAuto_25 : decode cX12_readAuto 25 = .ok (.aload_n 0, 1) := by decide +kernel
theorem dX12_readAuto_26 : decode cX12_readAuto 26 = .ok (.invokevirtual 209, 3) := by decide +kernel
theorem dX12_readAuto_29 : decode cX12_readAuto 29 = .ok (.aload_n 0, 1) := by decide +kernel
theorem dX12_readAuto_30 : decode cX12_readAuto 30 = .ok (.getfield 140, 3) := by decide +kernel
theorem dX12_readAuto_33 : decode cX12_readAuto 33 = .ok (.ifCond .ne 23, 3) := by decide +kernel
theorem dX12_readAuto_36 : decode cX12_readAuto 36 = .ok (.aload_n 0, 1) := by decide +kernel
theorem dX12_readAuto_37 : decode cX12_readAuto 37 = .ok (.getfield 163, 3) := by decide +kernel
theorem dX12_readAuto_40 : decode cX12_readAuto 40 = .ok (.iconst 2, 1) := by decide +kernel
theorem dX12_readAuto_41 : decode cX12_readAuto 41 = .ok (.if_icmp .ne 10, 3) := by decide +kernel
theorem dX12_readAuto_44 : decode cX12_readAuto 44 = .ok (.aload_n 0, 1) := by decide +kernel
theorem dX12_readAuto_45 : decode cX12_readAuto 45 = .ok (.invokevirtual 253, 3) := by decide +kernel
theorem dX12_readAuto_48 : decode cX12_readAuto 48 = .ok (.ifCond .eq 8, 3) := by decide +kernel
theorem dX12_readAuto_51 : decode cX12_readAuto 51 = .ok (.aload_n 0, 1) := by decide +kernel
theorem dX12_readAuto_52 : decode cX12_readAuto 52 = .ok (.iconst 1, 1) := by decide +kernel
theorem dX12_readAuto_53 : decode cX12_readAuto 53 = .ok (.invokevirtual 205, 3) := by decide +kernel
theorem dX12_readAuto_56 : decode cX12_readAuto 56 = .ok (.iconst 0, 1) := by decide +kernel
theorem dX12_readAuto_57 : decode cX12_readAuto 57 = .ok (.istore_n 1, 1) := by decide +kernel
theorem dX12_readAuto_58 : decode cX12_readAuto 58 = .ok (.iload_n 1, 1) := by decide +kernel
theorem dX12_readAuto_59 : decode cX12_readAuto 59 = .ok (.aload_n 0, 1) := by decide +kernel
theorem dX12_readAuto_60 : decode cX12_readAuto 60 = .ok (.getfield 215, 3) := by decide +kernel
theorem dX12_readAuto_63 : decode cX12_readAuto 63 = .ok (.if_icmp .ge 28, 3) := by decide +kernel
theorem dX12_readAuto_66 : decode cX12_readAuto 66 = .ok (.aload_n 0, 1) := by decide +kernel
theorem dX12_readAuto_67 : decode cX12_readAuto 67 = .ok (.getfield 29, 3) := by decide +kernel
theorem dX12_readAuto_70 : decode cX12_readAuto 70 = .ok (.iload_n 1, 1) := by decide +kernel
theorem dX12_readAuto_71 : decode cX12_readAuto 71 = .ok (.laload, 1) := by decide +kernel
theorem dX12_readAuto_72 : decode cX12_readAuto 72 = .ok (.aload_n 0, 1) := by decide +kernel
theorem dX12_readAuto_73 : decode cX12_readAuto 73 = .ok (.getfield 170, 3) := by decide +kernel
theorem dX12_readAuto_76 : decode cX12_readAuto 76 = .ok (.lcmp, 1) := by decide +kernel
theorem dX12_readAuto_77 : decode cX12_readAuto 77 = .ok (.ifCond .ne 8, 3) := by decide +kernel
theorem dX12_readAuto_80 : decode cX12_readAuto 80 = .ok (.aload_n 0, 1) := by decide +kernel
theorem dX12_readAuto_81 : decode cX12_readAuto 81 = .ok (.iconst 3, 1) := by decide +kernel
theorem dX12_readAuto_82 : decode cX12_readAuto 82 = .ok (.invokevirtual 205, 3) := by decide +kernel
theorem dX12_readAuto_85 : decode cX12_readAuto 85 = .ok (.iinc 1 1, 3) := by decide +kernel
theorem dX12_readAuto_88 : decode cX12_readAuto 88 = .ok (.goto (-30), 3) := by decide +kernel
theorem dX12_readAuto_91 : decode cX12_readAuto 91 = .ok (.aload_n 0, 1) := by decide +kernel
theorem dX12_readAuto_92 : decode cX12_readAuto 92 = .ok (.getfield 170, 3) := by decide +kernel
theorem dX12_readAuto_95 : decode cX12_readAuto 95 = .ok (.lstore_n 1, 1) := by decide +kernel
theorem dX12_readAuto_96 : decode cX12_readAuto 96 = .ok (.aload_n 0, 1) := by decide +kernel
theorem dX12_readAuto_97 : decode cX12_readAuto 97 = .ok (.invokevirtual 209, 3) := by decide +kernel
theorem dX12_readAuto_100 : decode cX12_readAuto 100 = .ok (.aload_n 0, 1) := by decide +kernel
theorem dX12_readAuto_101 : decode cX12_readAuto 101 = .ok (.ldc 231, 2) := by decide +kernel
theorem dX12_readAuto_103 : decode cX12_readAuto 103 = .ok (.invokevirtual 257, 3) := by decide +kernel
theorem dX12_readAuto_106 : decode cX12_readAuto 106 = .ok (.aload_n 0, 1) := by decide +kernel
theorem dX12_readAuto_107 : decode cX12_readAuto 107 = .ok (.iconst 1, 1) := by decide +kernel
theorem dX12_readAuto_108 : decode cX12_readAuto 108 = .ok (.iconst 4, 1) := by decide +kernel
theorem dX12_readAuto_109 : decode cX12_readAuto 109 = .ok (.invokevirtual 249, 3) := by decide +kernel
theorem dX12_readAuto_112 : decode cX12_readAuto 112 = .ok (.istore_n 3, 1) := by decide +kernel
theorem dX12_readAuto_113 : decode cX12_readAuto 113 = .ok (.aload_n 0, 1) := by decide +kernel
theorem dX12_readAuto_114 : decode cX12_readAuto 114 = .ok (.getfield 140, 3) := by decide +kernel
theorem dX12_readAuto_117 : decode cX12_readAuto 117 = .ok (.ifCond .le 4, 3) := by decide +kernel
theorem dX12_readAuto_120 : decode cX12_readAuto 120 = .ok (.return_, 1) := by decide +kernel
theorem dX12_readAuto_121 : decode cX12_readAuto 121 = .ok (.aload_n 0, 1) := by decide +kernel
theorem dX12_readAuto_122 : decode cX12_readAuto 122 = .ok (.getfield 29, 3) := by decide +kernel
theorem dX12_readAuto_125 : decode cX12_readAuto 125 = .ok (.aload_n 0, 1) := by decide +kernel
theorem dX12_readAuto_126 : decode cX12_readAuto 126 = .ok (.getfield 215, 3) := by decide +kernel
theorem dX12_readAuto_129 : decode cX12_readAuto 129 = .ok (.lload_n 1, 1) := by decide +kernel
theorem dX12_readAuto_130 : decode cX12_readAuto 130 = .ok (.lastore, 1) := by decide +kernel
theorem dX12_readAuto_131 : decode cX12_readAuto 131 = .ok (.aload_n 0, 1) := by decide +kernel
theorem dX12_readAuto_132 : decode cX12_readAuto 132 = .ok (.getfield 17, 3) := by decide +kernel
theorem dX12_readAuto_135 : decode cX12_readAuto 135 = .ok (.iconst 3, 1) := by decide +kernel
theorem dX12_readAuto_136 : decode cX12_readAuto 136 = .ok (.aload_n 0, 1) := by decide +kernel
theorem dX12_readAuto_137 : decode cX12_readAuto 137 = .ok (.getfield 215, 3) := by decide +kernel
theorem dX12_readAuto_140 : decode cX12_readAuto 140 = .ok (.iadd, 1) := by decide +kernel
theorem dX12_readAuto_141 : decode cX12_readAuto 141 = .ok (.iload_n 3, 1) := by decide +kernel
theorem dX12_readAuto_142 : decode cX12_readAuto 142 = .ok (.iastore, 1) := by decide +kernel
theorem dX12_readAuto_143 : decode cX12_readAuto 143 = .ok (.aload_n 0, 1) := by decide +kernel
theorem dX12_readAuto_144 : decode cX12_readAuto 144 = .ok (.getfield 20, 3) := by decide +kernel
theorem dX12_readAuto_147 : decode cX12_readAuto 147 = .ok (.iconst 3, 1) := by decide +kernel
theorem dX12_readAuto_148 : decode cX12_readAuto 148 = .ok (.aload_n 0, 1) := by decide +kernel
theorem dX12_readAuto_149 : decode cX12_readAuto 149 = .ok (.getfield 215, 3) := by decide +kernel
theorem dX12_readAuto_152 : decode cX12_readAuto 152 = .ok (.iadd, 1) := by decide +kernel
theorem dX12_readAuto_153 : decode cX12_readAuto 153 = .ok (.iconst 0, 1) := by decide +kernel
theorem dX12_readAuto_154 : decode cX12_readAuto 154 = .ok (.iastore, 1) := by decide +kernel
theorem dX12_readAuto_155 : decode cX12_readAuto 155 = .ok (.aload_n 0, 1) := by decide +kernel
theorem dX12_readAuto_156 : decode cX12_readAuto 156 = .ok (.getfield 23, 3) := by decide +kernel
theorem dX12_readAuto_159 : decode cX12_readAuto 159 = .ok (.iconst 3, 1) := by decide +kernel
theorem dX12_readAuto_160 : decode cX12_readAuto 160 = .ok (.aload_n 0, 1) := by decide +kernel
theorem dX12_readAuto_161 : decode cX12_readAuto 161 = .ok (.getfield 215, 3) := by decide +kernel
theorem dX12_readAuto_164 : decode cX12_readAuto 164 = .ok (.iadd, 1) := by decide +kernel
theorem dX12_readAuto_165 : decode cX12_readAuto 165 = .ok (.iconst 0, 1) := by decide +kernel
theorem dX12_readAuto_166 : decode cX12_readAuto 166 = .ok (.iastore, 1) := by decide +kernel
theorem dX12_readAuto_167 : decode cX12_readAuto 167 = .ok (.aload_n 0, 1) := by decide +kernel
theorem dX12_readAuto_168 : decode cX12_readAuto 168 = .ok (.dup, 1) := by decide +kernel
theorem dX12_readAuto_169 : decode cX12_readAuto 169 = .ok (.getfield 215, 3) := by decide +kernel
theorem dX12_readAuto_172 : decode cX12_readAuto 172 = .ok (.iconst 1, 1) := by decide +kernel
theorem dX12_readAuto_173 : decode cX12_readAuto 173 = .ok (.iadd, 1) := by decide +kernel
theorem dX12_readAuto_174 : decode cX12_readAuto 174 = .ok (.putfield 215, 3) := by decide +kernel
theorem dX12_readAuto_177 : decode cX12_readAuto 177 = .ok (.return_, 1) := by decide +kernel
theorem dX12_needsAuto_0 : decode cX12_needsAuto 0 = .ok (.aload_n 0, 1) := by decide +kernel
theorem dX12_needsAuto_1 : decode cX12_needsAuto 1 = .ok (.getfield 212, 3) := by decide +kernel
theorem dX12_needsAuto_4 : decode cX12_needsAuto 4 = .ok (.ifCond .eq 10, 3) := by decide +kernel
theorem dX12_needsAuto_7 : decode cX12_needsAuto 7 = .ok (.aload_n 0, 1) := by decide +kernel
theorem dX12_needsAuto_8 : decode cX12_needsAuto 8 = .ok (.getfield 215, 3) := by decide +kernel
theorem dX12_needsAuto_11 : decode cX12_needsAuto 11 = .ok (.ifCond .ne 8, 3) := by decide +kernel
theorem dX12_needsAuto_14 : decode cX12_needsAuto 14 = .ok (.aload_n 0, 1) := by decide +kernel
theorem dX12_needsAuto_15 : decode cX12_needsAuto 15 = .ok (.iconst 5, 1) := by decide +kernel
theorem dX12_needsAuto_16 : decode cX12_needsAuto 16 = .ok (.invokevirtual 205, 3) := by decide +kernel
theorem dX12_needsAuto_19 : decode cX12_needsAuto 19 = .ok (.return_, 1) := by decide +kernel
theorem dX12_readState_0 : decode cX12_readState 0 = .ok (.aload_n 0, 1) := by decide +kernel
theorem dX12_readState_1 : decode cX12_readState 1 = .ok (.iconst 0, 1) := by decide +kernel
theorem dX12_readState_2 : decode cX12_readState 2 = .ok (.aload_n 0, 1) := by decide +kernel
theorem dX12_readState_3 : decode cX12_readState 3 = .ok (.getfield 17, 3) := by decide +kernel
theorem dX12_readState_6 : decode cX12_readState 6 = .ok (.iconst 3, 1) := by decide +kernel
theorem dX12_readState_7 : decode cX12_readState 7 = .ok (.aload_n 0, 1) := by decide +kernel
theorem dX12_readState_8 : decode cX12_readState 8 = .ok (.getfield 215, 3) := by decide +kernel
theorem dX12_readState_11 : decode cX12_readState 11 = .ok (.iadd, 1) := by decide +kernel
theorem dX12_readState_12 : decode cX12_readState 12 = .ok (.iconst 1, 1) := by decide +kernel
theorem dX12_readState_13 : decode cX12_readState 13 = .ok (.isub, 1) := by decide +kernel
theorem dX12_readState_14 : decode cX12_readState 14 = .ok (.iaload, 1) := by decide +kernel
theorem dX12_readState_15 : decode cX12_readState 15 = .ok (.iconst 1, 1) := by decide +kernel
theorem dX12_readState_16 : decode cX12_readState 16 = .ok (.isub, 1) := by decide +kernel
theorem dX12_readState_17 : decode cX12_readState 17 = .ok (.invokevirtual 249, 3) := by decide +kernel
theorem dX12_readState_20 : decode cX12_readState 20 = .ok (.ireturn, 1) := by decide +kernel
theorem dX12_readMark_0 : decode cX12_readMark 0 = .ok (.aload_n 0, 1) := by decide +kernel
theorem dX12_readMark_1 : decode cX12_readMark 1 = .ok (.getfield 146, 3) := by decide +kernel
theorem dX12_readMark_4 : decode cX12_readMark 4 = .ok (.istore_n 2, 1) := by decide +kernel
theorem dX12_readMark_5 : decode cX12_readMark 5 = .ok (.aload_n 0, 1) := by decide +kernel
theorem dX12_readMark_6 : decode cX12_readMark 6 = .ok (.invokevirtual 261, 3) := by decide +kernel
theorem dX12_readMark_9 : decode cX12_readMark 9 = .ok (.aload_n 0, 1) := by decide +kernel
theorem dX12_readMark_10 : decode cX12_readMark 10 = .ok (.getfield 140, 3) := by decide +kernel
theorem dX12_readMark_13 : decode cX12_readMark 13 = .ok (.ifCond .le 4, 3) := by decide +kernel
theorem dX12_readMark_16 : decode cX12_readMark 16 = .ok (.return_, 1) := by decide +kernel
theorem dX12_readMark_17 : decode cX12_readMark 17 = .ok (.aload_n 0, 1) := by decide +kernel
theorem dX12_readMark_18 : decode cX12_readMark 18 = .ok (.invokevirtual 209, 3) := by decide +kernel
theorem dX12_readMark_21 : decode cX12_readMark 21 = .ok (.aload_n 0, 1) := by decide +kernel
theorem dX12_readMark_22 : decode cX12_readMark 22 = .ok (.invokevirtual 264, 3) := by decide +kernel
theorem dX12_readMark_25 : decode cX12_readMark 25 = .ok (.istore_n 3, 1) := by decide +kernel
theorem dX12_readMark_26 : decode cX12_readMark 26 = .ok (.aload_n 0, 1) := by decide +kernel
theorem dX12_readMark_27 : decode cX12_readMark 27 = .ok (.getfield 140, 3) := by decide +kernel
theorem dX12_readMark_30 : decode cX12_readMark 30 = .ok (.ifCond .le 4, 3) := by decide +kernel
theorem dX12_readMark_33 : decode cX12_readMark 33 = .ok (.return_, 1) := by decide +kernel
theorem dX12_readMark_34 : decode cX12_readMark 34 = .ok (.iconst 3, 1) := by decide +kernel
theorem dX12_readMark_35 : decode cX12_readMark 35 = .ok (.aload_n 0, 1) := by decide +kernel
theorem dX12_readMark_36 : decode cX12_readMark 36 = .ok (.getfield 215, 3) := by decide +kernel
theorem dX12_readMark_39 : decode cX12_readMark 39 = .ok (.iadd, 1) := by decide +kernel
theorem dX12_readMark_40 : decode cX12_readMark 40 = .ok (.iconst 1, 1) := by decide +kernel
theorem dX12_readMark_41 : decode cX12_readMark 41 = .ok (.isub, 1) := by decide +kernel
theorem dX12_readMark_42 : decode cX12_readMark 42 = .ok (.istore 4, 2) := by decide +kernel
theorem dX12_readMark_44 : decode cX12_readMark 44 = .ok (.iload_n 1, 1) := by decide +kernel
theorem dX12_readMark_45 : decode cX12_readMark 45 = .ok (.ifCond .eq 13, 3) := by decide +kernel
theorem dX12_readMark_48 : decode cX12_readMark 48 = .ok (.aload_n 0, 1) := by decide +kernel
theorem dX12_readMark_49 : decode cX12_readMark 49 = .ok (.getfield 20, 3) := by decide +kernel
theorem dX12_readMark_52 : decode cX12_readMark 52 = .ok (.iload 4, 2) := by decide +kernel
theorem dX12_readMark_54 : decode cX12_readMark 54 = .ok (.iaload, 1) := by decide +kernel
theorem dX12_readMark_55 : decode cX12_readMark 55 = .ok (.goto 10, 3) := by decide +kernel
theorem dX12_readMark_58 : decode cX12_readMark 58 = .ok (.aload_n 0, 1) := by decide +kernel
theorem dX12_readMark_59 : decode cX12_readMark 59 = .ok (.getfield 23, 3) := by decide +kernel
theorem dX12_readMark_62 : decode cX12_readMark 62 = .ok (.iload 4, 2) := by decide +kernel
theorem dX12_readMark_64 : decode cX12_readMark 64 = .ok (.iaload, 1) := by decide +kernel
theorem dX12_readMark_65 : decode cX12_readMark 65 = .ok (.iload_n 3, 1) := by decide +kernel
theorem dX12_readMark_66 : decode cX12_readMark 66 = .ok (.ishr, 1) := by decide +kernel
theorem dX12_readMark_67 : decode cX12_readMark 67 = .ok (.iconst 1, 1) := by decide +kernel
theorem dX12_readMark_68 : decode cX12_readMark 68 = .ok (.iand, 1) := by decide +kernel
theorem dX12_readMark_69 : decode cX12_readMark 69 = .ok (.iconst 1, 1) := by decide +kernel
theorem dX12_readMark_70 : decode cX12_readMark 70 = .ok (.if_icmp .ne 9, 3) := by decide +kernel
theorem dX12_readMark_73 : decode cX12_readMark 73 = .ok (.aload_n 0, 1) := by decide +kernel
theorem dX12_readMark_74 : decode cX12_readMark 74 = .ok (.iconst 3, 1) := by decide +kernel
theorem dX12_readMark_75 : decode cX12_readMark 75 = .ok (.iload_n 2, 1) := by decide +kernel
theorem dX12_readMark_76 : decode cX12_readMark 76 = .ok (.invokevirtual 149, 3) := by decide +kernel
theorem dX12_readMark_79 : decode cX12_readMark 79 = .ok (.iload_n 1, 1) := by decide +kernel
theorem dX12_readMark_80 : decode cX12_readMark 80 = .ok (.ifCond .eq 19, 3) := by decide +kernel
theorem dX12_readMark_83 : decode cX12_readMark 83 = .ok (.aload_n 0, 1) := by decide +kernel
theorem dX12_readMark_84 : decode cX12_readMark 84 = .ok (.getfield 20, 3) := by decide +kernel
theorem dX12_readMark_87 : decode cX12_readMark 87 = .ok (.iload 4, 2) := by decide +kernel
theorem dX12_readMark_89 : decode cX12_readMark 89 = .ok (.dup2, 1) := by decide +kernel
theorem dX12_readMark_90 : decode cX12_readMark 90 = .ok (.iaload, 1) := by decide +kernel
theorem dX12_readMark_91 : decode cX12_readMark 91 = .ok (.iconst 1, 1) := by decide +kernel
theorem dX12_readMark_92 : decode cX12_readMark 92 = .ok (.iload_n 3, 1) := by decide +kernel
theorem dX12_readMark_93 : decode cX12_readMark 93 = .ok (.ishl, 1) := by decide +kernel
theorem dX12_readMark_94 : decode cX12_readMark 94 = .ok (.ior, 1) := by decide +kernel
theorem dX12_readMark_95 : decode cX12_readMark 95 = .ok (.iastore, 1) := by decide +kernel
theorem dX12_readMark_96 : decode cX12_readMark 96 = .ok (.goto 16, 3) := by decide +kernel
theorem dX12_readMark_99 : decode cX12_readMark 99 = .ok (.aload_n 0, 1) := by decide +kernel
theorem dX12_readMark_100 : decode cX12_readMark 100 = .ok (.getfield 23, 3) := by decide +kernel
theorem dX12_readMark_103 : decode cX12_readMark 103 = .ok (.iload 4, 2) := by decide +kernel
theorem dX12_readMark_105 : decode cX12_readMark 105 = .ok (.dup2, 1) := by decide +kernel
theorem dX12_readMark_106 : decode cX12_readMark 106 = .ok (.iaload, 1) := by decide +kernel
theorem dX12_readMark_107 : decode cX12_readMark 107 = .ok (.iconst 1, 1) := by decide +kernel
theorem dX12_readMark_108 : decode cX12_readMark 108 = .ok (.iload_n 3, 1) := by decide +kernel
theorem dX12_readMark_109 : decode cX12_readMark 109 = .ok (.ishl, 1) := by decide +kernel
theorem dX12_readMark_110 : decode cX12_readMark 110 = .ok (.ior, 1) := by decide +kernel
theorem dX12_readMark_111 : decode cX12_readMark 111 = .ok (.iastore, 1) := by decide +kernel
theorem dX12_readMark_112 : decode cX12_readMark 112 = .ok (.return_, 1) := by decide +kernel
theorem dX12_readEdge_0 : decode cX12_readEdge 0 = .ok (.aload_n 0, 1) := by decide +kernel
theorem dX12_readEdge_1 : decode cX12_readEdge 1 = .ok (.getfield 146, 3) := by decide +kernel
theorem dX12_readEdge_4 : decode cX12_readEdge 4 = .ok (.istore_n 1, 1) := by decide +kernel
theorem dX12_readEdge_5 : decode cX12_readEdge 5 = .ok (.aload_n 0, 1) := by decide +kernel
theorem dX12_readEdge_6 : decode cX12_readEdge 6 = .ok (.invokevirtual 261, 3) := by decide +kernel
theorem dX12_readEdge_9 : decode cX12_readEdge 9 = .ok (.aload_n 0, 1) := by decide +kernel
theorem dX12_readEdge_10 : decode cX12_readEdge 10 = .ok (.getfield 140, 3) := by decide +kernel
theorem dX12_readEdge_13 : decode cX12_readEdge 13 = .ok (.ifCond .le 4, 3) := by decide +kernel
theorem dX12_readEdge_16 : decode cX12_readEdge 16 = .ok (.return_, 1) := by decide +kernel
theorem dX12_readEdge_17 : decode cX12_readEdge 17 = .ok (.aload_n 0, 1) := by decide +kernel
theorem dX12_readEdge_18 : decode cX12_readEdge 18 = .ok (.invokevirtual 209, 3) := by decide +kernel
theorem dX12_readEdge_21 : decode cX12_readEdge 21 = .ok (.aload_n 0, 1) := by decide +kernel
theorem dX12_readEdge_22 : decode cX12_readEdge 22 = .ok (.invokevirtual 264, 3) := by decide +kernel
theorem dX12_readEdge_25 : decode cX12_readEdge 25 = .ok (.istore_n 2, 1) := by decide +kernel
theorem dX12_readEdge_26 : decode cX12_readEdge 26 = .ok (.aload_n 0, 1) := by decide +kernel
theorem dX12_readEdge_27 : decode cX12_readEdge 27 = .ok (.getfield 163, 3) := by decide +kernel
theorem dX12_readEdge_30 : decode cX12_readEdge 30 = .ok (.iconst 2, 1) := by decide +kernel
theorem dX12_readEdge_31 : decode cX12_readEdge 31 = .ok (.if_icmp .ne 20, 3) := by decide +kernel
theorem dX12_readEdge_34 : decode cX12_readEdge 34 = .ok (.aload_n 0, 1) := by decide +kernel
theorem dX12_readEdge_35 : decode cX12_readEdge 35 = .ok (.getfield 170, 3) := by decide +kernel
theorem dX12_readEdge_38 : decode cX12_readEdge 38 = .ok (.aload_n 0, 1) := by decide +kernel
theorem dX12_readEdge_39 : decode cX12_readEdge 39 = .ok (.getfield 212, 3) := by decide +kernel
theorem dX12_readEdge_42 : decode cX12_readEdge 42 = .ok (.i2l, 1) := by decide +kernel
theorem dX12_readEdge_43 : decode cX12_readEdge 43 = .ok (.lcmp, 1) := by decide +kernel
theorem dX12_readEdge_44 : decode cX12_readEdge 44 = .ok (.ifCond .gt 7, 3) := by decide +kernel
theorem dX12_readEdge_47 : decode cX12_readEdge 47 = .ok (.iconst 1, 1) := by decide +kernel
theorem dX12_readEdge_48 : decode cX12_readEdge 48 = .ok (.goto 4, 3) := by decide +kernel
theorem dX12_readEdge_51 : decode cX12_readEdge 51 = .ok (.iconst 0, 1) := by decide +kernel
theorem dX12_readEdge_52 : decode cX12_readEdge 52 = .ok (.istore_n 3, 1) := by decide +kernel
theorem dX12_readEdge_53 : decode cX12_readEdge 53 = .ok (.iload_n 3, 1) := by decide +kernel
theorem dX12_readEdge_54 : decode cX12_readEdge 54 = .ok (.ifCond .ne 8, 3) := by decide +kernel
theorem dX12_readEdge_57 : decode cX12_readEdge 57 = .ok (.aload_n 0, 1) := by decide +kernel
theorem dX12_readEdge_58 : decode cX12_readEdge 58 = .ok (.iconst 1, 1) := by decide +kernel
theorem dX12_readEdge_59 : decode cX12_readEdge 59 = .ok (.invokevirtual 205, 3) := by decide +kernel
theorem dX12_readEdge_62 : decode cX12_readEdge 62 = .ok (.iload_n 3, 1) := by decide +kernel
theorem dX12_readEdge_63 : decode cX12_readEdge 63 = .ok (.ifCond .eq 13, 3) := by decide +kernel
theorem dX12_readEdge_66 : decode cX12_readEdge 66 = .ok (.aload_n 0, 1) := by decide +kernel
theorem dX12_readEdge_67 : decode cX12_readEdge 67 = .ok (.getfield 170, 3) := by decide +kernel
theorem dX12_readEdge_70 : decode cX12_readEdge 70 = .ok (.l2i, 1) := by decide +kernel
theorem dX12_readEdge_71 : decode cX12_readEdge 71 = .ok (.iconst 1, 1) := by decide +kernel
theorem dX12_readEdge_72 : decode cX12_readEdge 72 = .ok (.isub, 1) := by decide +kernel
theorem dX12_readEdge_73 : decode cX12_readEdge 73 = .ok (.goto 4, 3) := by decide +kernel
theorem dX12_readEdge_76 : decode cX12_readEdge 76 = .ok (.iconst 0, 1) := by decide +kernel
theorem dX12_readEdge_77 : decode cX12_readEdge 77 = .ok (.istore 4, 2) := by decide +kernel
theorem dX12_readEdge_79 : decode cX12_readEdge 79 = .ok (.aload_n 0, 1) := by decide +kernel
theorem dX12_readEdge_80 : decode cX12_readEdge 80 = .ok (.invokevirtual 209, 3) := by decide +kernel
theorem dX12_readEdge_83 : decode cX12_readEdge 83 = .ok (.aload_n 0, 1) := by decide +kernel
theorem dX12_readEdge_84 : decode cX12_readEdge 84 = .ok (.invokevirtual 264, 3) := by decide +kernel
theorem dX12_readEdge_87 : decode cX12_readEdge 87 = .ok (.istore 5, 2) := by decide +kernel
theorem dX12_readEdge_89 : decode cX12_readEdge 89 = .ok (.aload_n 0, 1) := by decide +kernel
theorem dX12_readEdge_90 : decode cX12_readEdge 90 = .ok (.getfield 140, 3) := by decide +kernel
theorem dX12_readEdge_93 : decode cX12_readEdge 93 = .ok (.ifCond .le 4, 3) := by decide +kernel
theorem dX12_readEdge_96 : decode cX12_readEdge 96 = .ok (.return_, 1) := by decide +kernel
theorem dX12_readEdge_97 : decode cX12_readEdge 97 = .ok (.bipush 16, 2) := by decide +kernel
theorem dX12_readEdge_99 : decode cX12_readEdge 99 = .ok (.iconst 3, 1) := by decide +kernel
theorem dX12_readEdge_100 : decode cX12_readEdge 100 = .ok (.aload_n 0, 1) := by decide +kernel
theorem dX12_readEdge_101 : decode cX12_readEdge 101 = .ok (.getfield 215, 3) := by decide +kernel
theorem dX12_readEdge_104 : decode cX12_readEdge 104 = .ok (.iadd, 1) := by decide +kernel
theorem dX12_readEdge_105 : decode cX12_readEdge 105 = .ok (.iconst 1, 1) := by decide +kernel
theorem dX12_readEdge_106 : decode cX12_readEdge 106 = .ok (.isub, 1) := by decide +kernel
theorem dX12_readEdge_107 : decode cX12_readEdge 107 = .ok (.imul, 1) := by decide +kernel
theorem dX12_readEdge_108 : decode cX12_readEdge 108 = .ok (.iconst 4, 1) := by decide +kernel
theorem dX12_readEdge_109 : decode cX12_readEdge 109 = .ok (.iload 4, 2) := by decide +kernel
theorem dX12_readEdge_111 : decode cX12_readEdge 111 = .ok (.imul, 1) := by decide +kernel
theorem dX12_readEdge_112 : decode cX12_readEdge 112 = .ok (.iadd, 1) := by decide +kernel
theorem dX12_readEdge_113 : decode cX12_readEdge 113 = .ok (.iload_n 2, 1) := by decide +kernel
theorem dX12_readEdge_114 : decode cX12_readEdge 114 = .ok (.iadd, 1) := by decide +kernel
theorem dX12_readEdge_115 : decode cX12_readEdge 115 = .ok (.istore 6, 2) := by decide +kernel
theorem dX12_readEdge_117 : decode cX12_readEdge 117 = .ok (.aload_n 0, 1) := by decide +kernel
theorem dX12_readEdge_118 : decode cX12_readEdge 118 = .ok (.getfield 26, 3) := by decide +kernel
theorem dX12_readEdge_121 : decode cX12_readEdge 121 = .ok (.iload 6, 2) := by decide +kernel
theorem dX12_readEdge_123 : decode cX12_readEdge 123 = .ok (.iaload, 1) := by decide +kernel
theorem dX12_readEdge_124 : decode cX12_readEdge 124 = .ok (.iload 5, 2) := by decide +kernel
theorem dX12_readEdge_126 : decode cX12_readEdge 126 = .ok (.ishr, 1) := by decide +kernel
theorem dX12_readEdge_127 : decode cX12_readEdge 127 = .ok (.iconst 1, 1) := by decide +kernel
theorem dX12_readEdge_128 : decode cX12_readEdge 128 = .ok (.iand, 1) := by decide +kernel
theorem dX12_readEdge_129 : decode cX12_readEdge 129 = .ok (.iconst 1, 1) := by decide +kernel
theorem dX12_readEdge_130 : decode cX12_readEdge 130 = .ok (.if_icmp .ne 9, 3) := by decide +kernel
theorem dX12_readEdge_133 : decode cX12_readEdge 133 = .ok (.aload_n 0, 1) := by decide +kernel
theorem dX12_readEdge_134 : decode cX12_readEdge 134 = .ok (.iconst 3, 1) := by decide +kernel
theorem dX12_readEdge_135 : decode cX12_readEdge 135 = .ok (.iload_n 1, 1) := by decide +kernel
theorem dX12_readEdge_136 : decode cX12_readEdge 136 = .ok (.invokevirtual 149, 3) := by decide +kernel
theorem dX12_readEdge_139 : decode cX12_readEdge 139 = .ok (.aload_n 0, 1) := by decide +kernel
theorem dX12_readEdge_140 : decode cX12_readEdge 140 = .ok (.getfield 26, 3) := by decide +kernel
theorem dX12_readEdge_143 : decode cX12_readEdge 143 = .ok (.iload 6, 2) := by decide +kernel
theorem dX12_readEdge_145 : decode cX12_readEdge 145 = .ok (.dup2, 1) := by decide +kernel
theorem dX12_readEdge_146 : decode cX12_readEdge 146 = .ok (.iaload, 1) := by decide +kernel
theorem dX12_readEdge_147 : decode cX12_readEdge 147 = .ok (.iconst 1, 1) := by decide +kernel
theorem dX12_readEdge_148 : decode cX12_readEdge 148 = .ok (.iload 5, 2) := by decide +kernel
theorem dX12_readEdge_150 : decode cX12_readEdge 150 = .ok (.ishl, 1) := by decide +kernel
theorem dX12_readEdge_151 : decode cX12_readEdge 151 = .ok (.ior, 1) := by decide +kernel
theorem dX12_readEdge_152 : decode cX12_readEdge 152 = .ok (.iastore, 1) := by decide +kernel
theorem dX12_readEdge_153 : decode cX12_readEdge 153 = .ok (.return_, 1) := by decide +kernel
theorem dX12_automata_0 : decode cX12_automata 0 = .ok (.aload_n 0, 1) := by decide +kernel
theorem dX12_automata_1 : decode cX12_automata 1 = .ok (.iconst 0, 1) := by decide +kernel
theorem dX12_automata_2 : decode cX12_automata 2 = .ok (.putfield 131, 3) := by decide +kernel
theorem dX12_automata_5 : decode cX12_automata 5 = .ok (.aload_n 0, 1) := by decide +kernel
theorem dX12_automata_6 : decode cX12_automata 6 = .ok (.iload_n 1, 1) := by decide +kernel
theorem dX12_automata_7 : decode cX12_automata 7 = .ok (.invokevirtual 267, 3) := by decide +kernel
theorem dX12_automata_10 : decode cX12_automata 10 = .ok (.ifCond .eq 9, 3) := by decide +kernel
theorem dX12_automata_13 : decode cX12_automata 13 = .ok (.aload_n 0, 1) := by decide +kernel
theorem dX12_automata_14 : decode cX12_automata 14 = .ok (.iconst 2, 1) := by decide +kernel
theorem dX12_automata_15 : decode cX12_automata 15 = .ok (.invokevirtual 270, 3) := by decide +kernel
theorem dX12_automata_18 : decode cX12_automata 18 = .ok (.ireturn, 1) := by decide +kernel
theorem dX12_automata_19 : decode cX12_automata 19 = .ok (.aload_n 0, 1) := by decide +kernel
theorem dX12_automata_20 : decode cX12_automata 20 = .ok (.iload_n 1, 1) := by decide +kernel
theorem dX12_automata_21 : decode cX12_automata 21 = .ok (.invokevirtual 274, 3) := by decide +kernel
theorem dX12_automata_24 : decode cX12_automata 24 = .ok (.aload_n 0, 1) := by decide +kernel
theorem dX12_automata_25 : decode cX12_automata 25 = .ok (.invokevirtual 277, 3) := by decide +kernel
theorem dX12_automata_28 : decode cX12_automata 28 = .ok (.aload_n 0, 1) := by decide +kernel
theorem dX12_automata_29 : decode cX12_automata 29 = .ok (.getfield 140, 3) := by decide +kernel
theorem dX12_automata_32 : decode cX12_automata 32 = .ok (.ifCond .le 8, 3) := by decide +kernel
theorem dX12_automata_35 : decode cX12_automata 35 = .ok (.aload_n 0, 1) := by decide +kernel
theorem dX12_automata_36 : decode cX12_automata 36 = .ok (.invokevirtual 280, 3) := by decide +kernel
theorem dX12_automata_39 : decode cX12_automata 39 = .ok (.ireturn, 1) := by decide +kernel
theorem dX12_automata_40 : decode cX12_automata 40 = .ok (.aload_n 0, 1) := by decide +kernel
theorem dX12_automata_41 : decode cX12_automata 41 = .ok (.aload_n 0, 1) := by decide +kernel
theorem dX12_automata_42 : decode cX12_automata 42 = .ok (.getfield 212, 3) := by decide +kernel
theorem dX12_automata_45 : decode cX12_automata 45 = .ok (.putfield 283, 3) := by decide +kernel
theorem dX12_automata_48 : decode cX12_automata 48 = .ok (.aload_n 0, 1) := by decide +kernel
theorem dX12_automata_49 : decode cX12_automata 49 = .ok (.aload_n 0, 1) := by decide +kernel
theorem dX12_automata_50 : decode cX12_automata 50 = .ok (.getfield 215, 3) := by decide +kernel
theorem dX12_automata_53 : decode cX12_automata 53 = .ok (.putfield 285, 3) := by decide +kernel
theorem dX12_automata_56 : decode cX12_automata 56 = .ok (.iconst 0, 1) := by decide +kernel
theorem dX12_automata_57 : decode cX12_automata 57 = .ok (.istore_n 2, 1) := by decide +kernel
theorem dX12_automata_58 : decode cX12_automata 58 = .ok (.iload_n 2, 1) := by decide +kernel
theorem dX12_automata_59 : decode cX12_automata 59 = .ok (.aload_n 0, 1) := by decide +kernel
theorem dX12_automata_60 : decode cX12_automata 60 = .ok (.getfield 285, 3) := by decide +kernel
theorem dX12_automata_63 : decode cX12_automata 63 = .ok (.if_icmp .ge 89, 3) := by decide +kernel
theorem dX12_automata_66 : decode cX12_automata 66 = .ok (.aload_n 0, 1) := by decide +kernel
theorem dX12_automata_67 : decode cX12_automata 67 = .ok (.getfield 17, 3) := by decide +kernel
theorem dX12_automata_70 : decode cX12_automata 70 = .ok (.iload_n 2, 1) := by decide +kernel
theorem dX12_automata_71 : decode cX12_automata 71 = .ok (.aload_n 0, 1) := by decide +kernel
theorem dX12_automata_72 : decode cX12_automata 72 = .ok (.getfield 17, 3) := by decide +kernel
theorem dX12_automata_75 : decode cX12_automata 75 = .ok (.iconst 3, 1) := by decide +kernel
theorem dX12_automata_76 : decode cX12_automata 76 = .ok (.iload_n 2, 1) := by decide +kernel
theorem dX12_automata_77 : decode cX12_automata 77 = .ok (.iadd, 1) := by decide +kernel
theorem dX12_automata_78 : decode cX12_automata 78 = .ok (.iaload, 1) := by decide +kernel
theorem dX12_automata_79 : decode cX12_automata 79 = .ok (.iastore, 1) := by decide +kernel
theorem dX12_automata_80 : decode cX12_automata 80 = .ok (.aload_n 0, 1) := by decide +kernel
theorem dX12_automata_81 : decode cX12_automata 81 = .ok (.getfield 20, 3) := by decide +kernel
theorem dX12_automata_84 : decode cX12_automata 84 = .ok (.iload_n 2, 1) := by decide +kernel
theorem dX12_automata_85 : decode cX12_automata 85 = .ok (.aload_n 0, 1) := by decide +kernel
theorem dX12_automata_86 : decode cX12_automata 86 = .ok (.getfield 20, 3) := by decide +kernel
theorem dX12_automata_89 : decode cX12_automata 89 = .ok (.iconst 3, 1) := by decide +kernel
theorem dX12_automata_90 : decode cX12_automata 90 = .ok (.iload_n 2, 1) := by decide +kernel
theorem dX12_automata_91 : decode cX12_automata 91 = .ok (.iadd, 1) := by decide +kernel
theorem dX12_automata_92 : decode cX12_automata 92 = .ok (.iaload, 1) := by decide +kernel
theorem dX12_automata_93 : decode cX12_automata 93 = .ok (.iastore, 1) := by decide +kernel
theorem dX12_automata_94 : decode cX12_automata 94 = .ok (.aload_n 0, 1) := by decide +kernel
theorem dX12_automata_95 : decode cX12_automata 95 = .ok (.getfield 23, 3) := by decide +kernel
theorem dX12_automata_98 : decode cX12_automata 98 = .ok (.iload_n 2, 1) := by decide +kernel
theorem dX12_automata_99 : decode cX12_automata 99 = .ok (.aload_n 0, 1) := by decide +kernel
theorem dX12_automata_100 : decode cX12_automata 100 = .ok (.getfield 23, 3) := by decide +kernel
theorem dX12_automata_103 : decode cX12_automata 103 = .ok (.iconst 3, 1) := by decide +kernel
theorem dX12_automata_104 : decode cX12_automata 104 = .ok (.iload_n 2, 1) := by decide +kernel
theorem dX12_automata_105 : decode cX12_automata 105 = .ok (.iadd, 1) := by decide +kernel
theorem dX12_automata_106 : decode cX12_automata 106 = .ok (.iaload, 1) := by decide +kernel
theorem dX12_automata_107 : decode cX12_automata 107 = .ok (.iastore, 1) := by decide +kernel
theorem dX12_automata_108 : decode cX12_automata 108 = .ok (.iconst 0, 1) := by decide +kernel
theorem dX12_automata_109 : decode cX12_automata 109 = .ok (.istore_n 3, 1) := by decide +kernel
theorem dX12_automata_110 : decode cX12_automata 110 = .ok (.iload_n 3, 1) := by decide +kernel
theorem dX12_automata_111 : decode cX12_automata 111 = .ok (.bipush 16, 2) := by decide +kernel
theorem dX12_automata_113 : decode cX12_automata 113 = .ok (.if_icmp .ge 33, 3) := by decide +kernel
theorem dX12_automata_116 : decode cX12_automata 116 = .ok (.aload_n 0, 1) := by decide +kernel
theorem dX12_automata_117 : decode cX12_automata 117 = .ok (.getfield 26, 3) := by decide +kernel
theorem dX12_automata_120 : decode cX12_automata 120 = .ok (.bipush 16, 2) := by decide +kernel
theorem dX12_automata_122 : decode cX12_automata 122 = .ok (.iload_n 2, 1) := by decide +kernel
theorem dX12_automata_123 : decode cX12_automata 123 = .ok (.imul, 1) := by decide +kernel
theorem dX12_automata_124 : decode cX12_automata 124 = .ok (.iload_n 3, 1) := by decide +kernel
theorem dX12_automata_125 : decode cX12_automata 125 = .ok (.iadd, 1) := by decide +kernel
theorem dX12_automata_126 : decode cX12_automata 126 = .ok (.aload_n 0, 1) := by decide +kernel
theorem dX12_automata_127 : decode cX12_automata 127 = .ok (.getfield 26, 3) := by decide +kernel
theorem dX12_automata_130 : decode cX12_automata 130 = .ok (.bipush 16, 2) := by decide +kernel
theorem dX12_automata_132 : decode cX12_automata 132 = .ok (.iconst 3, 1) := by decide +kernel
theorem dX12_automata_133 : decode cX12_automata 133 = .ok (.iload_n 2, 1) := by decide +kernel
theorem dX12_automata_134 : decode cX12_automata 134 = .ok (.iadd, 1) := by decide +kernel
theorem dX12_automata_135 : decode cX12_automata 135 = .ok (.imul, 1) := by decide +kernel
theorem dX12_automata_136 : decode cX12_automata 136 = .ok (.iload_n 3, 1) := by decide +kernel
theorem dX12_automata_137 : decode cX12_automata 137 = .ok (.iadd, 1) := by decide +kernel
theorem dX12_automata_138 : decode cX12_automata 138 = .ok (.iaload, 1) := by decide +kernel
theorem dX12_automata_139 : decode cX12_automata 139 = .ok (.iastore, 1) := by decide +kernel
theorem dX12_automata_140 : decode cX12_automata 140 = .ok (.iinc 3 1, 3) := by decide +kernel
theorem dX12_automata_143 : decode cX12_automata 143 = .ok (.goto (-33), 3) := by decide +kernel
theorem dX12_automata_146 : decode cX12_automata 146 = .ok (.iinc 2 1, 3) := by decide +kernel
theorem dX12_automata_149 : decode cX12_automata 149 = .ok (.goto (-91), 3) := by decide +kernel
theorem dX12_automata_152 : decode cX12_automata 152 = .ok (.aload_n 0, 1) := by decide +kernel
theorem dX12_automata_153 : decode cX12_automata 153 = .ok (.iconst (-1), 1) := by decide +kernel
theorem dX12_automata_154 : decode cX12_automata 154 = .ok (.putfield 61, 3) := by decide +kernel
theorem dX12_automata_157 : decode cX12_automata 157 = .ok (.aload_n 0, 1) := by decide +kernel
theorem dX12_automata_158 : decode cX12_automata 158 = .ok (.aload_n 0, 1) := by decide +kernel
theorem dX12_automata_159 : decode cX12_automata 159 = .ok (.getfield 285, 3) := by decide +kernel
theorem dX12_automata_162 : decode cX12_automata 162 = .ok (.invokevirtual 288, 3) := by decide +kernel
theorem dX12_automata_165 : decode cX12_automata 165 = .ok (.ireturn, 1) := by decide +kernel
theorem dX12_isAuto_0 : decode cX12_isAuto 0 = .ok (.iload_n 1, 1) := by decide +kernel
theorem dX12_isAuto_1 : decode cX12_isAuto 1 = .ok (.iconst 0, 1) := by decide +kernel
theorem dX12_isAuto_2 : decode cX12_isAuto 2 = .ok (.aload_n 0, 1) := by decide +kernel
theorem dX12_isAuto_3 : decode cX12_isAuto 3 = .ok (.getfield 285, 3) := by decide +kernel
theorem dX12_isAuto_6 : decode cX12_isAuto 6 = .ok (.iconst 1, 1) := by decide +kernel
theorem dX12_isAuto_7 : decode cX12_isAuto 7 = .ok (.isub, 1) := by decide +kernel
theorem dX12_isAuto_8 : decode cX12_isAuto 8 = .ok (.invokestatic 156, 3) := by decide +kernel
theorem dX12_isAuto_11 : decode cX12_isAuto 11 = .ok (.ireturn, 1) := by decide +kernel
theorem dX12_isState_0 : decode cX12_isState 0 = .ok (.aload_n 0, 1) := by decide +kernel
theorem dX12_isState_1 : decode cX12_isState 1 = .ok (.iload_n 1, 1) := by decide +kernel
theorem dX12_isState_2 : decode cX12_isState 2 = .ok (.invokevirtual 291, 3) := by decide +kernel
theorem dX12_isState_5 : decode cX12_isState 5 = .ok (.ifCond .eq 23, 3) := by decide +kernel
theorem dX12_isState_8 : decode cX12_isState 8 = .ok (.iload_n 2, 1) := by decide +kernel
theorem dX12_isState_9 : decode cX12_isState 9 = .ok (.iconst 0, 1) := by decide +kernel
theorem dX12_isState_10 : decode cX12_isState 10 = .ok (.aload_n 0, 1) := by decide +kernel
theorem dX12_isState_11 : decode cX12_isState 11 = .ok (.getfield 17, 3) := by decide +kernel
theorem dX12_isState_14 : decode cX12_isState 14 = .ok (.iload_n 1, 1) := by decide +kernel
theorem dX12_isState_15 : decode cX12_isState 15 = .ok (.iaload, 1) := by decide +kernel
theorem dX12_isState_16 : decode cX12_isState 16 = .ok (.iconst 1, 1) := by decide +kernel
theorem dX12_isState_17 : decode cX12_isState 17 = .ok (.isub, 1) := by decide +kernel
theorem dX12_isState_18 : decode cX12_isState 18 = .ok (.invokestatic 156, 3) := by decide +kernel
theorem dX12_isState_21 : decode cX12_isState 21 = .ok (.ifCond .eq 7, 3) := by decide +kernel
theorem dX12_isState_24 : decode cX12_isState 24 = .ok (.iconst 1, 1) := by decide +kernel
theorem dX12_isState_25 : decode cX12_isState 25 = .ok (.goto 4, 3) := by decide +kernel
theorem dX12_isState_28 : decode cX12_isState 28 = .ok (.iconst 0, 1) := by decide +kernel
theorem dX12_isState_29 : decode cX12_isState 29 = .ok (.ireturn, 1) := by decide +kernel
theorem dX12_isLetter_0 : decode cX12_isLetter 0 = .ok (.iload_n 1, 1) := by decide +kernel
theorem dX12_isLetter_1 : decode cX12_isLetter 1 = .ok (.iconst 0, 1) := by decide +kernel
theorem dX12_isLetter_2 : decode cX12_isLetter 2 = .ok (.aload_n 0, 1) := by decide +kernel
theorem dX12_isLetter_3 : decode cX12_isLetter 3 = .ok (.getfield 283, 3) := by decide +kernel
theorem dX12_isLetter_6 : decode cX12_isLetter 6 = .ok (.iconst 1, 1) := by decide +kernel
theorem dX12_isLetter_7 : decode cX12_isLetter 7 = .ok (.isub, 1) := by decide +kernel
theorem dX12_isLetter_8 : decode cX12_isLetter 8 = .ok (.invokestatic 156, 3) := by decide +kernel
theorem dX12_isLetter_11 : decode cX12_isLetter 11 = .ok (.ireturn, 1) := by decide +kernel
theorem dX12_isSet_0 : decode cX12_isSet 0 = .ok (.iload_n 2, 1) := by decide +kernel
theorem dX12_isSet_1 : decode cX12_isSet 1 = .ok (.iconst 0, 1) := by decide +kernel
theorem dX12_isSet_2 : decode cX12_isSet 2 = .ok (.iconst 1, 1) := by decide +kernel
theorem dX12_isSet_3 : decode cX12_isSet 3 = .ok (.aload_n 0, 1) := by decide +kernel
theorem dX12_isSet_4 : decode cX12_isSet 4 = .ok (.getfield 17, 3) := by decide +kernel
theorem dX12_isSet_7 : decode cX12_isSet 7 = .ok (.iload_n 1, 1) := by decide +kernel
theorem dX12_isSet_8 : decode cX12_isSet 8 = .ok (.iaload, 1) := by decide +kernel
theorem dX12_isSet_9 : decode cX12_isSet 9 = .ok (.ishl, 1) := by decide +kernel
theorem dX12_isSet_10 : decode cX12_isSet 10 = .ok (.iconst 1, 1) := by decide +kernel
theorem dX12_isSet_11 : decode cX12_isSet 11 = .ok (.isub, 1) := by decide +kernel
theorem dX12_isSet_12 : decode cX12_isSet 12 = .ok (.invokestatic 156, 3) := by decide +kernel
theorem dX12_isSet_15 : decode cX12_isSet 15 = .ok (.ireturn, 1) := by decide +kernel
theorem dX12_automaton_0 : decode cX12_automaton 0 = .ok (.aload_n 0, 1) := by decide +kernel
theorem dX12_automaton_1 : decode cX12_automaton 1 = .ok (.iconst 0, 1) := by decide +kernel
theorem dX12_automaton_2 : decode cX12_automaton 2 = .ok (.putfield 131, 3) := by decide +kernel
theorem dX12_automaton_5 : decode cX12_automaton 5 = .ok (.aload_n 0, 1) := by decide +kernel
theorem dX12_automaton_6 : decode cX12_automaton 6 = .ok (.iload_n 1, 1) := by decide +kernel
theorem dX12_automaton_7 : decode cX12_automaton 7 = .ok (.invokevirtual 291, 3) := by decide +kernel
theorem dX12_automaton_10 : decode cX12_automaton 10 = .ok (.ifCond .ne 9, 3) := by decide +kernel
theorem dX12_automaton_13 : decode cX12_automaton 13 = .ok (.aload_n 0, 1) := by decide +kernel
theorem dX12_automaton_14 : decode cX12_automaton 14 = .ok (.iconst 1, 1) := by decide +kernel
theorem dX12_automaton_15 : decode cX12_automaton 15 = .ok (.invokevirtual 270, 3) := by decide +kernel
theorem dX12_automaton_18 : decode cX12_automaton 18 = .ok (.ireturn, 1) := by decide +kernel
theorem dX12_automaton_19 : decode cX12_automaton 19 = .ok (.iload_n 2, 1) := by decide +kernel
theorem dX12_automaton_20 : decode cX12_automaton 20 = .ok (.tableswitch 88 0 4 #[36, 47, 58, 69, 79], 36) := by decide +kernel
theorem dX12_automaton_56 : decode cX12_automaton 56 = .ok (.aload_n 0, 1) := by decide +kernel
theorem dX12_automaton_57 : decode cX12_automaton 57 = .ok (.aload_n 0, 1) := by decide +kernel
theorem dX12_automaton_58 : decode cX12_automaton 58 = .ok (.getfield 17, 3) := by decide +kernel
theorem dX12_automaton_61 : decode cX12_automaton 61 = .ok (.iload_n 1, 1) := by decide +kernel
theorem dX12_automaton_62 : decode cX12_automaton 62 = .ok (.iaload, 1) := by decide +kernel
theorem dX12_automaton_63 : decode cX12_automaton 63 = .ok (.invokevirtual 288, 3) := by decide +kernel
