theorem dX5_init_0 : decode cX5_init 0 = .ok (.aload_n 0, 1) := by decide +kernel
theorem dX5_init_1 : decode cX5_init 1 = .ok (.invokespecial 1, 3) := by decide +kernel
theorem dX5_init_4 : decode cX5_init 4 = .ok (.aload_n 0, 1) := by decide +kernel
theorem dX5_init_5 : decode cX5_init 5 = .ok (.sipush 330, 3) := by decide +kernel
theorem dX5_init_8 : decode cX5_init 8 = .ok (.newarray .int, 2) := by decide +kernel
theorem dX5_init_10 : decode cX5_init 10 = .ok (.putfield 7, 3) := by decide +kernel
theorem dX5_init_13 : decode cX5_init 13 = .ok (.aload_n 0, 1) := by decide +kernel
theorem dX5_init_14 : decode cX5_init 14 = .ok (.bipush 55, 2) := by decide +kernel
theorem dX5_init_16 : decode cX5_init 16 = .ok (.newarray .int, 2) := by decide +kernel
theorem dX5_init_18 : decode cX5_init 18 = .ok (.putfield 13, 3) := by decide +kernel
theorem dX5_init_21 : decode cX5_init 21 = .ok (.aload_n 0, 1) := by decide +kernel
theorem dX5_init_22 : decode cX5_init 22 = .ok (.sipush 160, 3) := by decide +kernel
theorem dX5_init_25 : decode cX5_init 25 = .ok (.newarray .int, 2) := by decide +kernel
theorem dX5_init_27 : decode cX5_init 27 = .ok (.putfield 16, 3) := by decide +kernel
theorem dX5_init_30 : decode cX5_init 30 = .ok (.aload_n 0, 1) := by decide +kernel
theorem dX5_init_31 : decode cX5_init 31 = .ok (.bipush 8, 2) := by decide +kernel
theorem dX5_init_33 : decode cX5_init 33 = .ok (.newarray .int, 2) := by decide +kernel
theorem dX5_init_35 : decode cX5_init 35 = .ok (.dup, 1) := by decide +kernel
theorem dX5_init_36 : decode cX5_init 36 = .ok (.iconst 0, 1) := by decide +kernel
theorem dX5_init_37 : decode cX5_init 37 = .ok (.iconst 0, 1) := by decide +kernel
theorem dX5_init_38 : decode cX5_init 38 = .ok (.iastore, 1) := by decide +kernel
theorem dX5_init_39 : decode cX5_init 39 = .ok (.dup, 1) := by decide +kernel
theorem dX5_init_40 : decode cX5_init 40 = .ok (.iconst 1, 1) := by decide +kernel
theorem dX5_init_41 : decode cX5_init 41 = .ok (.iconst 5, 1) := by decide +kernel
theorem dX5_init_42 : decode cX5_init 42 = .ok (.iastore, 1) := by decide +kernel
theorem dX5_init_43 : decode cX5_init 43 = .ok (.dup, 1) := by decide +kernel
theorem dX5_init_44 : decode cX5_init 44 = .ok (.iconst 2, 1) := by decide +kernel
theorem dX5_init_45 : decode cX5_init 45 = .ok (.bipush 12, 2) := by decide +kernel
theorem dX5_init_47 : decode cX5_init 47 = .ok (.iastore, 1) := by decide +kernel
theorem dX5_init_48 : decode cX5_init 48 = .ok (.dup, 1) := by decide +kernel
theorem dX5_init_49 : decode cX5_init 49 = .ok (.iconst 3, 1) := by decide +kernel
theorem dX5_init_50 : decode cX5_init 50 = .ok (.bipush 19, 2) := by decide +kernel
theorem dX5_init_52 : decode cX5_init 52 = .ok (.iastore, 1) := by decide +kernel
theorem dX5_init_53 : decode cX5_init 53 = .ok (.dup, 1) := by decide +kernel
theorem dX5_init_54 : decode cX5_init 54 = .ok (.iconst 4, 1) := by decide +kernel
theorem dX5_init_55 : decode cX5_init 55 = .ok (.bipush 24, 2) := by decide +kernel
theorem dX5_init_57 : decode cX5_init 57 = .ok (.iastore, 1) := by decide +kernel
theorem dX5_init_58 : decode cX5_init 58 = .ok (.dup, 1) := by decide +kernel
theorem dX5_init_59 : decode cX5_init 59 = .ok (.iconst 5, 1) := by decide +kernel
theorem dX5_init_60 : decode cX5_init 60 = .ok (.bipush 26, 2) := by decide +kernel
theorem dX5_init_62 : decode cX5_init 62 = .ok (.iastore, 1) := by decide +kernel
theorem dX5_init_63 : decode cX5_init 63 = .ok (.dup, 1) := by decide +kernel
theorem dX5_init_64 : decode cX5_init 64 = .ok (.bipush 6, 2) := by decide +kernel
theorem dX5_init_66 : decode cX5_init 66 = .ok (.bipush 31, 2) := by decide +kernel
theorem dX5_init_68 : decode cX5_init 68 = .ok (.iastore, 1) := by decide +kernel
theorem dX5_init_69 : decode cX5_init 69 = .ok (.dup, 1) := by decide +kernel
theorem dX5_init_70 : decode cX5_init 70 = .ok (.bipush 7, 2) := by decide +kernel
theorem dX5_init_72 : decode cX5_init 72 = .ok (.bipush 36, 2) := by decide +kernel
theorem dX5_init_74 : decode cX5_init 74 = .ok (.iastore, 1) := by decide +kernel
theorem dX5_init_75 : decode cX5_init 75 = .ok (.putfield 19, 3) := by decide +kernel
theorem dX5_init_78 : decode cX5_init 78 = .ok (.aload_n 0, 1) := by decide +kernel
theorem dX5_init_79 : decode cX5_init 79 = .ok (.bipush 36, 2) := by decide +kernel
theorem dX5_init_81 : decode cX5_init 81 = .ok (.newarray .int, 2) := by decide +kernel
theorem dX5_init_83 : decode cX5_init 83 = .ok (.dup, 1) := by decide +kernel
theorem dX5_init_84 : decode cX5_init 84 = .ok (.iconst 0, 1) := by decide +kernel
theorem dX5_init_85 : decode cX5_init 85 = .ok (.bipush 112, 2) := by decide +kernel
theorem dX5_init_87 : decode cX5_init 87 = .ok (.iastore, 1) := by decide +kernel
theorem dX5_init_88 : decode cX5_init 88 = .ok (.dup, 1) := by decide +kernel
theorem dX5_init_89 : decode cX5_init 89 = .ok (.iconst 1, 1) := by decide +kernel
theorem dX5_init_90 : decode cX5_init 90 = .ok (.bipush 108, 2) := by decide +kernel
theorem dX5_init_92 : decode cX5_init 92 = .ok (.iastore, 1) := by decide +kernel
theorem dX5_init_93 : decode cX5_init 93 = .ok (.dup, 1) := by decide +kernel
theorem dX5_init_94 : decode cX5_init 94 = .ok (.iconst 2, 1) := by decide +kernel
theorem dX5_init_95 : decode cX5_init 95 = .ok (.bipush 97, 2) := by decide +kernel
theorem dX5_init_97 : decode cX5_init 97 = .ok (.iastore, 1) := by decide +kernel
theorem dX5_init_98 : decode cX5_init 98 = .ok (.dup, 1) := by decide +kernel
theorem dX5_init_99 : decode cX5_init 99 = .ok (.iconst 3, 1) := by decide +kernel
theorem dX5_init_100 : decode cX5_init 100 = .ok (.bipush 105, 2) := by decide +kernel
theorem dX5_init_102 : decode cX5_init 102 = .ok (.iastore, 1) := by decide +kernel
theorem dX5_init_103 : decode cX5_init 103 = .ok (.dup, 1) := by decide +kernel
theorem dX5_init_104 : decode cX5_init 104 = .ok (.iconst 4, 1) := by decide +kernel
theorem dX5_init_105 : decode cX5_init 105 = .ok (.bipush 110, 2) := by decide +kernel
theorem dX5_init_107 : decode cX5_init 107 = .ok (.iastore, 1) := by decide +kernel
theorem dX5_init_108 : decode cX5_init 108 = .ok (.dup, 1) := by decide +kernel
theorem dX5_init_109 : decode cX5_init 109 = .ok (.iconst 5, 1) := by decide +kernel
theorem dX5_init_110 : decode cX5_init 110 = .ok (.bipush 109, 2) := by decide +kernel
theorem dX5_init_112 : decode cX5_init 112 = .ok (.iastore, 1) := by decide +kernel
theorem dX5_init_113 : decode cX5_init 113 = .ok (.dup, 1) := by decide +kernel
theorem dX5_init_114 : decode cX5_init 114 = .ok (.bipush 6, 2) := by decide +kernel
theorem dX5_init_116 : decode cX5_init 116 = .ok (.bipush 97, 2) := by decide +kernel
theorem dX5_init_118 : decode cX5_init 118 = .ok (.iastore, 1) := by decide +kernel
theorem dX5_init_119 : decode cX5_init 119 = .ok (.dup, 1) := by decide +kernel
theorem dX5_init_120 : decode cX5_init 120 = .ok (.bipush 7, 2) := by decide +kernel
theorem dX5_init_122 : decode cX5_init 122 = .ok (.bipush 114, 2) := by decide +kernel
theorem dX5_init_124 : decode cX5_init 124 = .ok (.iastore, 1) := by decide +kernel
theorem dX5_init_125 : decode cX5_init 125 = .ok (.dup, 1) := by decide +kernel
theorem dX5_init_126 : decode cX5_init 126 = .ok (.bipush 8, 2) := by decide +kernel
theorem dX5_init_128 : decode cX5_init 128 = .ok (.bipush 115, 2) := by decide +kernel
theorem dX5_init_130 : decode cX5_init 130 = .ok (.iastore, 1) := by decide +kernel
theorem dX5_init_131 : decode cX5_init 131 = .ok (.dup, 1) := by decide +kernel
theorem dX5_init_132 : decode cX5_init 132 = .ok (.bipush 9, 2) := by decide +kernel
theorem dX5_init_134 : decode cX5_init 134 = .ok (.bipush 104, 2) := by decide +kernel
theorem dX5_init_136 : decode cX5_init 136 = .ok (.iastore, 1) := by decide +kernel
theorem dX5_init_137 : decode cX5_init 137 = .ok (.dup, 1) := by decide +kernel
theorem dX5_init_138 : decode cX5_init 138 = .ok (.bipush 10, 2) := by decide +kernel
theorem dX5_init_140 : decode cX5_init 140 = .ok (.bipush 97, 2) := by decide +kernel
theorem dX5_init_142 : decode cX5_init 142 = .ok (.iastore, 1) := by decide +kernel
theorem dX5_init_143 : decode cX5_init 143 = .ok (.dup, 1) := by decide +kernel
theorem dX5_init_144 : decode cX5_init 144 = .ok (.bipush 11, 2) := by decide +kernel
theorem dX5_init_146 : decode cX5_init 146 = .ok (.bipush 108, 2) := by decide +kernel
theorem dX5_init_148 : decode cX5_init 148 = .ok (.iastore, 1) := by decide +kernel
theorem dX5_init_149 : decode cX5_init 149 = .ok (.dup, 1) := by decide +kernel
theorem dX5_init_150 : decode cX5_init 150 = .ok (.bipush 12, 2) := by decide +kernel
theorem dX5_init_152 : decode cX5_init 152 = .ok (.bipush 117, 2) := by decide +kernel
theorem dX5_init_154 : decode cX5_init 154 = .ok (.iastore, 1) := by decide +kernel
theorem dX5_init_155 : decode cX5_init 155 = .ok (.dup, 1) := by decide +kernel
theorem dX5_init_156 : decode cX5_init 156 = .ok (.bipush 13, 2) := by decide +kernel
theorem dX5_init_158 : decode cX5_init 158 = .ok (.bipush 115, 2) := by decide +kernel
theorem dX5_init_160 : decode cX5_init 160 = .ok (.iastore, 1) := by decide +kernel
theorem dX5_init_161 : decode cX5_init 161 = .ok (.dup, 1) := by decide +kernel
theorem dX5_init_162 : decode cX5_init 162 = .ok (.bipush 14, 2) := by decide +kernel
theorem dX5_init_164 : decode cX5_init 164 = .ok (.bipush 117, 2) := by decide +kernel
theorem dX5_init_166 : decode cX5_init 166 = .ok (.iastore, 1) := by decide +kernel
theorem dX5_init_167 : decode cX5_init 167 = .ok (.dup, 1) := by decide +kernel
theorem dX5_init_168 : decode cX5_init 168 = .ok (.bipush 15, 2) := by decide +kernel
theorem dX5_init_170 : decode cX5_init 170 = .ok (.bipush 114, 2) := by decide +kernel
theorem dX5_init_172 : decode cX5_init 172 = .ok (.iastore, 1) := by decide +kernel
theorem dX5_init_173 : decode cX5_init 173 = .ok (.dup, 1) := by decide +kernel
theorem dX5_init_174 : decode cX5_init 174 = .ok (.bipush 16, 2) := by decide +kernel
theorem dX5_init_176 : decode cX5_init 176 = .ok (.bipush 112, 2) := by decide +kernel
theorem dX5_init_178 : decode cX5_init 178 = .ok (.iastore, 1) := by decide +kernel
theorem dX5_init_179 : decode cX5_init 179 = .ok (.dup, 1) := by decide +kernel
theorem dX5_init_180 : decode cX5_init 180 = .ok (.bipush 17, 2) := by decide +kernel
theorem dX5_init_182 : decode cX5_init 182 = .ok (.bipush 101, 2) := by decide +kernel
theorem dX5_init_184 : decode cX5_init 184 = .ok (.iastore, 1) := by decide +kernel
theorem dX5_init_185 : decode cX5_init 185 = .ok (.dup, 1) := by decide +kernel
theorem dX5_init_186 : decode cX5_init 186 = .ok (.bipush 18, 2) := by decide +kernel
theorem dX5_init_188 : decode cX5_init 188 = .ok (.bipush 114, 2) := by decide +kernel
theorem dX5_init_190 : decode cX5_init 190 = .ok (.iastore, 1) := by decide +kernel
theorem dX5_init_191 : decode cX5_init 191 = .ok (.dup, 1) := by decide +kernel
theorem dX5_init_192 : decode cX5_init 192 = .ok (.bipush 19, 2) := by decide +kernel
theorem dX5_init_194 : decode cX5_init 194 = .ok (.bipush 113, 2) := by decide +kernel
theorem dX5_init_196 : decode cX5_init 196 = .ok (.iastore, 1) := by decide +kernel
theorem dX5_init_197 : decode cX5_init 197 = .ok (.dup, 1) := by decide +kernel
theorem dX5_init_198 : decode cX5_init 198 = .ok (.bipush 20, 2) := by decide +kernel
theorem dX5_init_200 : decode cX5_init 200 = .ok (.bipush 117, 2) := by decide +kernel
theorem dX5_init_202 : decode cX5_init 202 = .ok (.iastore, 1) := by decide +kernel
theorem dX5_init_203 : decode cX5_init 203 = .ok (.dup, 1) := by decide +kernel
theorem dX5_init_204 : decode cX5_init 204 = .ok (.bipush 21, 2) := by decide +kernel
theorem dX5_init_206 : decode cX5_init 206 = .ok (.bipush 105, 2) := by decide +kernel
theorem dX5_init_208 : decode cX5_init 208 = .ok (.iastore, 1) := by decide +kernel
theorem dX5_init_209 : decode cX5_init 209 = .ok (.dup, 1) := by decide +kernel
theorem dX5_init_210 : decode cX5_init 210 = .ok (.bipush 22, 2) := by decide +kernel
theorem dX5_init_212 : decode cX5_init 212 = .ok (.bipush 101, 2) := by decide +kernel
theorem dX5_init_214 : decode cX5_init 214 = .ok (.iastore, 1) := by decide +kernel
theorem dX5_init_215 : decode cX5_init 215 = .ok (.dup, 1) := by decide +kernel
theorem dX5_init_216 : decode cX5_init 216 = .ok (.bipush 23, 2) := by decide +kernel
theorem dX5_init_218 : decode cX5_init 218 = .ok (.bipush 116, 2) := by decide +kernel
theorem dX5_init_220 : decode cX5_init 220 = .ok (.iastore, 1) := by decide +kernel
theorem dX5_init_221 : decode cX5_init 221 = .ok (.dup, 1) := by decide +kernel
theorem dX5_init_222 : decode cX5_init 222 = .ok (.bipush 24, 2) := by decide +kernel
theorem dX5_init_224 : decode cX5_init 224 = .ok (.bipush 111, 2) := by decide +kernel
theorem dX5_init_226 : decode cX5_init 226 = .ok (.iastore, 1) := by decide +kernel
theorem dX5_init_227 : decode cX5_init 227 = .ok (.dup, 1) := by decide +kernel
theorem dX5_init_228 : decode cX5_init 228 = .ok (.bipush 25, 2) := by decide +kernel
theorem dX5_init_230 : decode cX5_init 230 = .ok (.bipush 110, 2) := by decide +kernel
theorem dX5_init_232 : decode cX5_init 232 = .ok (.iastore, 1) := by decide +kernel
theorem dX5_init_233 : decode cX5_init 233 = .ok (.dup, 1) := by decide +kernel
theorem dX5_init_234 : decode cX5_init 234 = .ok (.bipush 26, 2) := by decide +kernel
theorem dX5_init_236 : decode cX5_init 236 = .ok (.bipush 116, 2) := by decide +kernel
theorem dX5_init_238 : decode cX5_init 238 = .ok (.iastore, 1) := by decide +kernel
theorem dX5_init_239 : decode cX5_init 239 = .ok (.dup, 1) := by decide +kernel
theorem dX5_init_240 : decode cX5_init 240 = .ok (.bipush 27, 2) := by decide +kernel
theorem dX5_init_242 : decode cX5_init 242 = .ok (.bipush 114, 2) := by decide +kernel
theorem dX5_init_244 : decode cX5_init 244 = .ok (.iastore, 1) := by decide +kernel
theorem dX5_init_245 : decode cX5_init 245 = .ok (.dup, 1) := by decide +kernel
theorem dX5_init_246 : decode cX5_init 246 = .ok (.bipush 28, 2) := by decide +kernel
theorem dX5_init_248 : decode cX5_init 248 = .ok (.bipush 117, 2) := by decide +kernel
theorem dX5_init_250 : decode cX5_init 250 = .ok (.iastore, 1) := by decide +kernel
theorem dX5_init_251 : decode cX5_init 251 = .ok (.dup, 1) := by decide +kernel
theorem dX5_init_252 : decode cX5_init 252 = .ok (.bipush 29, 2) := by decide +kernel
theorem dX5_init_254 : decode cX5_init 254 = .ok (.bipush 115, 2) := by decide +kernel
theorem dX5_init_256 : decode cX5_init 256 = .ok (.iastore, 1) := by decide +kernel
theorem dX5_init_257 : decode cX5_init 257 = .ok (.dup, 1) := by decide +kernel
theorem dX5_init_258 : decode cX5_init 258 = .ok (.bipush 30, 2) := by decide +kernel
theorem dX5_init_260 : decode cX5_init 260 = .ok (.bipush 116, 2) := by decide +kernel
theorem dX5_init_262 : decode cX5_init 262 = .ok (.iastore, 1) := by decide +kernel
theorem dX5_init_263 : decode cX5_init 263 = .ok (.dup, 1) := by decide +kernel
theorem dX5_init_264 : decode cX5_init 264 = .ok (.bipush 31, 2) := by decide +kernel
theorem dX5_init_266 : decode cX5_init 266 = .ok (.bipush 98, 2) := by decide +kernel
theorem dX5_init_268 : decode cX5_init 268 = .ok (.iastore, 1) := by decide +kernel
theorem dX5_init_269 : decode cX5_init 269 = .ok (.dup, 1) := by decide +kernel
theorem dX5_init_270 : decode cX5_init 270 = .ok (.bipush 32, 2) := by decide +kernel
theorem dX5_init_272 : decode cX5_init 272 = .ok (.bipush 101, 2) := by decide +kernel
theorem dX5_init_274 : decode cX5_init 274 = .ok (.iastore, 1) := by decide +kernel
theorem dX5_init_275 : decode cX5_init 275 = .ok (.dup, 1) := by decide +kernel
theorem dX5_init_276 : decode cX5_init 276 = .ok (.bipush 33, 2) := by decide +kernel
theorem dX5_init_278 : decode cX5_init 278 = .ok (.bipush 97, 2) := by decide +kernel
theorem dX5_init_280 : decode cX5_init 280 = .ok (.iastore, 1) := by decide +kernel
theorem dX5_init_281 : decode cX5_init 281 = .ok (.dup, 1) := by decide +kernel
theorem dX5_init_282 : decode cX5_init 282 = .ok (.bipush 34, 2) := by decide +kernel
theorem dX5_init_284 : decode cX5_init 284 = .ok (.bipush 114, 2) := by decide +kernel
theorem dX5_init_286 : decode cX5_init 286 = .ok (.iastore, 1) := by decide +kernel
theorem dX5_init_287 : decode cX5_init 287 = .ok (.dup, 1) := by decide +kernel
theorem dX5_init_288 : decode cX5_init 288 = .ok (.bipush 35, 2) := by decide +kernel
theorem dX5_init_290 : decode cX5_init 290 = .ok (.bipush 115, 2) := by decide +kernel
theorem dX5_init_292 : decode cX5_init 292 = .ok (.iastore, 1) := by decide +kernel
theorem dX5_init_293 : decode cX5_init 293 = .ok (.putfield 22, 3) := by decide +kernel
theorem dX5_init_296 : decode cX5_init 296 = .ok (.aload_n 0, 1) := by decide +kernel
theorem dX5_init_297 : decode cX5_init 297 = .ok (.bipush 18, 2) := by decide +kernel
theorem dX5_init_299 : decode cX5_init 299 = .ok (.newarray .int, 2) := by decide +kernel
theorem dX5_init_301 : decode cX5_init 301 = .ok (.putfield 25, 3) := by decide +kernel
theorem dX5_init_304 : decode cX5_init 304 = .ok (.aload_n 0, 1) := by decide +kernel
theorem dX5_init_305 : decode cX5_init 305 = .ok (.sipush 1680, 3) := by decide +kernel
theorem dX5_init_308 : decode cX5_init 308 = .ok (.newarray .int, 2) := by decide +kernel
theorem dX5_init_310 : decode cX5_init 310 = .ok (.putfield 28, 3) := by decide +kernel
theorem dX5_init_313 : decode cX5_init 313 = .ok (.aload_n 0, 1) := by decide +kernel
theorem dX5_init_314 : decode cX5_init 314 = .ok (.iconst 2, 1) := by decide +kernel
theorem dX5_init_315 : decode cX5_init 315 = .ok (.newarray .boolean, 2) := by decide +kernel
theorem dX5_init_317 : decode cX5_init 317 = .ok (.putfield 31, 3) := by decide +kernel
theorem dX5_init_320 : decode cX5_init 320 = .ok (.aload_n 0, 1) := by decide +kernel
theorem dX5_init_321 : decode cX5_init 321 = .ok (.iconst 4, 1) := by decide +kernel
theorem dX5_init_322 : decode cX5_init 322 = .ok (.newarray .int, 2) := by decide +kernel
theorem dX5_init_324 : decode cX5_init 324 = .ok (.dup, 1) := by decide +kernel
theorem dX5_init_325 : decode cX5_init 325 = .ok (.iconst 0, 1) := by decide +kernel
theorem dX5_init_326 : decode cX5_init 326 = .ok (.bipush (-4), 2) := by decide +kernel
theorem dX5_init_328 : decode cX5_init 328 = .ok (.iastore, 1) := by decide +kernel
theorem dX5_init_329 : decode cX5_init 329 = .ok (.dup, 1) := by decide +kernel
theorem dX5_init_330 : decode cX5_init 330 = .ok (.iconst 1, 1) := by decide +kernel
theorem dX5_init_331 : decode cX5_init 331 = .ok (.bipush (-4), 2) := by decide +kernel
theorem dX5_init_333 : decode cX5_init 333 = .ok (.iastore, 1) := by decide +kernel
theorem dX5_init_334 : decode cX5_init 334 = .ok (.dup, 1) := by decide +kernel
theorem dX5_init_335 : decode cX5_init 335 = .ok (.iconst 2, 1) := by decide +kernel
theorem dX5_init_336 : decode cX5_init 336 = .ok (.bipush (-4), 2) := by decide +kernel
theorem dX5_init_338 : decode cX5_init 338 = .ok (.iastore, 1) := by decide +kernel
theorem dX5_init_339 : decode cX5_init 339 = .ok (.dup, 1) := by decide +kernel
theorem dX5_init_340 : decode cX5_init 340 = .ok (.iconst 3, 1) := by decide +kernel
theorem dX5_init_341 : decode cX5_init 341 = .ok (.bipush (-4), 2) := by decide +kernel
theorem dX5_init_343 : decode cX5_init 343 = .ok (.iastore, 1) := by decide +kernel
theorem dX5_init_344 : decode cX5_init 344 = .ok (.putfield 35, 3) := by decide +kernel
theorem dX5_init_347 : decode cX5_init 347 = .ok (.aload_n 0, 1) := by decide +kernel
theorem dX5_init_348 : decode cX5_init 348 = .ok (.iconst 4, 1) := by decide +kernel
theorem dX5_init_349 : decode cX5_init 349 = .ok (.newarray .int, 2) := by decide +kernel
theorem dX5_init_351 : decode cX5_init 351 = .ok (.putfield 38, 3) := by decide +kernel
theorem dX5_init_354 : decode cX5_init 354 = .ok (.aload_n 0, 1) := by decide +kernel
theorem dX5_init_355 : decode cX5_init 355 = .ok (.sipush 160, 3) := by decide +kernel
theorem dX5_init_358 : decode cX5_init 358 = .ok (.newarray .int, 2) := by decide +kernel
theorem dX5_init_360 : decode cX5_init 360 = .ok (.putfield 41, 3) := by decide +kernel
theorem dX5_init_363 : decode cX5_init 363 = .ok (.return_, 1) := by decide +kernel
theorem dX5_in_0 : decode cX5_in 0 = .ok (.lload_n 0, 1) := by decide +kernel
theorem dX5_in_1 : decode cX5_in 1 = .ok (.lload_n 2, 1) := by decide +kernel
theorem dX5_in_2 : decode cX5_in 2 = .ok (.lcmp, 1) := by decide +kernel
theorem dX5_in_3 : decode cX5_in 3 = .ok (.ifCond .lt 14, 3) := by decide +kernel
theorem dX5_in_6 : decode cX5_in 6 = .ok (.lload_n 0, 1) := by decide +kernel
theorem dX5_in_7 : decode cX5_in 7 = .ok (.lload 4, 2) := by decide +kernel
theorem dX5_in_9 : decode cX5_in 9 = .ok (.lcmp, 1) := by decide +kernel
theorem dX5_in_10 : decode cX5_in 10 = .ok (.ifCond .gt 7, 3) := by decide +kernel
theorem dX5_in_13 : decode cX5_in 13 = .ok (.iconst 1, 1) := by decide +kernel
theorem dX5_in_14 : decode cX5_in 14 = .ok (.goto 4, 3) := by decide +kernel
theorem dX5_in_17 : decode cX5_in 17 = .ok (.iconst 0, 1) := by decide +kernel
theorem dX5_in_18 : decode cX5_in 18 = .ok (.ireturn, 1) := by decide +kernel
theorem dX5_feed_0 : decode cX5_feed 0 = .ok (.iload_n 1, 1) := by decide +kernel
theorem dX5_feed_1 : decode cX5_feed 1 = .ok (.i2l, 1) := by decide +kernel
theorem dX5_feed_2 : decode cX5_feed 2 = .ok (.lconst 0, 1) := by decide +kernel
theorem dX5_feed_3 : decode cX5_feed 3 = .ok (.ldc2_w 44, 3) := by decide +kernel
theorem dX5_feed_6 : decode cX5_feed 6 = .ok (.invokestatic 46, 3) := by decide +kernel
theorem dX5_feed_9 : decode cX5_feed 9 = .ok (.ifCond .ne 5, 3) := by decide +kernel
theorem dX5_feed_12 : decode cX5_feed 12 = .ok (.iconst (-1), 1) := by decide +kernel
theorem dX5_feed_13 : decode cX5_feed 13 = .ok (.ireturn, 1) := by decide +kernel
theorem dX5_feed_14 : decode cX5_feed 14 = .ok (.aload_n 0, 1) := by decide +kernel
theorem dX5_feed_15 : decode cX5_feed 15 = .ok (.getfield 50, 3) := by decide +kernel
theorem dX5_feed_18 : decode cX5_feed 18 = .ok (.sipush 160, 3) := by decide +kernel
theorem dX5_feed_21 : decode cX5_feed 21 = .ok (.if_icmp .ne 6, 3) := by decide +kernel
theorem dX5_feed_24 : decode cX5_feed 24 = .ok (.bipush (-3), 2) := by decide +kernel
theorem dX5_feed_26 : decode cX5_feed 26 = .ok (.ireturn, 1) := by decide +kernel
theorem dX5_feed_27 : decode cX5_feed 27 = .ok (.aload_n 0, 1) := by decide +kernel
theorem dX5_feed_28 : decode cX5_feed 28 = .ok (.getfield 16, 3) := by decide +kernel
theorem dX5_feed_31 : decode cX5_feed 31 = .ok (.aload_n 0, 1) := by decide +kernel
theorem dX5_feed_32 : decode cX5_feed 32 = .ok (.getfield 50, 3) := by decide +kernel
theorem dX5_feed_35 : decode cX5_feed 35 = .ok (.iload_n 1, 1) := by decide +kernel
theorem dX5_feed_36 : decode cX5_feed 36 = .ok (.iastore, 1) := by decide +kernel
theorem dX5_feed_37 : decode cX5_feed 37 = .ok (.aload_n 0, 1) := by decide +kernel
theorem dX5_feed_38 : decode cX5_feed 38 = .ok (.dup, 1) := by decide +kernel
theorem dX5_feed_39 : decode cX5_feed 39 = .ok (.getfield 50, 3) := by decide +kernel
theorem dX5_feed_42 : decode cX5_feed 42 = .ok (.iconst 1, 1) := by decide +kernel
theorem dX5_feed_43 : decode cX5_feed 43 = .ok (.iadd, 1) := by decide +kernel
theorem dX5_feed_44 : decode cX5_feed 44 = .ok (.putfield 50, 3) := by decide +kernel
theorem dX5_feed_47 : decode cX5_feed 47 = .ok (.aload_n 0, 1) := by decide +kernel
theorem dX5_feed_48 : decode cX5_feed 48 = .ok (.getfield 50, 3) := by decide +kernel
theorem dX5_feed_51 : decode cX5_feed 51 = .ok (.ireturn, 1) := by decide +kernel
theorem dX5_end_0 : decode cX5_end 0 = .ok (.iload_n 1, 1) := by decide +kernel
theorem dX5_end_1 : decode cX5_end 1 = .ok (.i2l, 1) := by decide +kernel
theorem dX5_end_2 : decode cX5_end 2 = .ok (.lconst 0, 1) := by decide +kernel
theorem dX5_end_3 : decode cX5_end 3 = .ok (.aload_n 0, 1) := by decide +kernel
theorem dX5_end_4 : decode cX5_end 4 = .ok (.getfield 50, 3) := by decide +kernel
theorem dX5_end_7 : decode cX5_end 7 = .ok (.i2l, 1) := by decide +kernel
theorem dX5_end_8 : decode cX5_end 8 = .ok (.invokestatic 46, 3) := by decide +kernel
theorem dX5_end_11 : decode cX5_end 11 = .ok (.ifCond .ne 5, 3) := by decide +kernel
theorem dX5_end_14 : decode cX5_end 14 = .ok (.iconst (-1), 1) := by decide +kernel
theorem dX5_end_15 : decode cX5_end 15 = .ok (.ireturn, 1) := by decide +kernel
theorem dX5_end_16 : decode cX5_end 16 = .ok (.aload_n 0, 1) := by decide +kernel
theorem dX5_end_17 : decode cX5_end 17 = .ok (.getfield 50, 3) := by decide +kernel
theorem dX5_end_20 : decode cX5_end 20 = .ok (.istore_n 2, 1) := by decide +kernel
theorem dX5_end_21 : decode cX5_end 21 = .ok (.aload_n 0, 1) := by decide +kernel
theorem dX5_end_22 : decode cX5_end 22 = .ok (.iload_n 1, 1) := by decide +kernel
theorem dX5_end_23 : decode cX5_end 23 = .ok (.putfield 50, 3) := by decide +kernel
theorem dX5_end_26 : decode cX5_end 26 = .ok (.iload_n 2, 1) := by decide +kernel
theorem dX5_end_27 : decode cX5_end 27 = .ok (.ireturn, 1) := by decide +kernel
theorem dX5_byteAt_0 : decode cX5_byteAt 0 = .ok (.iload_n 1, 1) := by decide +kernel
theorem dX5_byteAt_1 : decode cX5_byteAt 1 = .ok (.aload_n 0, 1) := by decide +kernel
theorem dX5_byteAt_2 : decode cX5_byteAt 2 = .ok (.getfield 50, 3) := by decide +kernel
theorem dX5_byteAt_5 : decode cX5_byteAt 5 = .ok (.if_icmp .ge 12, 3) := by decide +kernel
theorem dX5_byteAt_8 : decode cX5_byteAt 8 = .ok (.aload_n 0, 1) := by decide +kernel
theorem dX5_byteAt_9 : decode cX5_byteAt 9 = .ok (.getfield 16, 3) := by decide +kernel
theorem dX5_byteAt_12 : decode cX5_byteAt 12 = .ok (.iload_n 1, 1) := by decide +kernel
theorem dX5_byteAt_13 : decode cX5_byteAt 13 = .ok (.iaload, 1) := by decide +kernel
theorem dX5_byteAt_14 : decode cX5_byteAt 14 = .ok (.goto 5, 3) := by decide +kernel
theorem dX5_byteAt_17 : decode cX5_byteAt 17 = .ok (.bipush (-4), 2) := by decide +kernel
theorem dX5_byteAt_19 : decode cX5_byteAt 19 = .ok (.ireturn, 1) := by decide +kernel
theorem dX5_fails_0 : decode cX5_fails 0 = .ok (.aload_n 0, 1) := by decide +kernel
theorem dX5_fails_1 : decode cX5_fails 1 = .ok (.getfield 54, 3) := by decide +kernel
theorem dX5_fails_4 : decode cX5_fails 4 = .ok (.ifCond .ne 16, 3) := by decide +kernel
theorem dX5_fails_7 : decode cX5_fails 7 = .ok (.aload_n 0, 1) := by decide +kernel
theorem dX5_fails_8 : decode cX5_fails 8 = .ok (.iload_n 1, 1) := by decide +kernel
theorem dX5_fails_9 : decode cX5_fails 9 = .ok (.putfield 54, 3) := by decide +kernel
theorem dX5_fails_12 : decode cX5_fails 12 = .ok (.aload_n 0, 1) := by decide +kernel
theorem dX5_fails_13 : decode cX5_fails 13 = .ok (.aload_n 0, 1) := by decide +kernel
theorem dX5_fails_14 : decode cX5_fails 14 = .ok (.getfield 57, 3) := by decide +kernel
theorem dX5_fails_17 : decode cX5_fails 17 = .ok (.putfield 60, 3) := by decide +kernel
theorem dX5_fails_20 : decode cX5_fails 20 = .ok (.return_, 1) := by decide +kernel
theorem dX5_nameHere_0 : decode cX5_nameHere 0 = .ok (.iconst 0, 1) := by decide +kernel
theorem dX5_nameHere_1 : decode cX5_nameHere 1 = .ok (.istore_n 1, 1) := by decide +kernel
theorem dX5_nameHere_2 : decode cX5_nameHere 2 = .ok (.iload_n 1, 1) := by decide +kernel
theorem dX5_nameHere_3 : decode cX5_nameHere 3 = .ok (.bipush 7, 2) := by decide +kernel
theorem dX5_nameHere_5 : decode cX5_nameHere 5 = .ok (.if_icmp .ge 113, 3) := by decide +kernel
theorem dX5_nameHere_8 : decode cX5_nameHere 8 = .ok (.aload_n 0, 1) := by decide +kernel
theorem dX5_nameHere_9 : decode cX5_nameHere 9 = .ok (.getfield 63, 3) := by decide +kernel
theorem dX5_nameHere_12 : decode cX5_nameHere 12 = .ok (.iconst 1, 1) := by decide +kernel
theorem dX5_nameHere_13 : decode cX5_nameHere 13 = .ok (.if_icmp .ne 105, 3) := by decide +kernel
theorem dX5_nameHere_16 : decode cX5_nameHere 16 = .ok (.aload_n 0, 1) := by decide +kernel
theorem dX5_nameHere_17 : decode cX5_nameHere 17 = .ok (.getfield 66, 3) := by decide +kernel
theorem dX5_nameHere_20 : decode cX5_nameHere 20 = .ok (.aload_n 0, 1) := by decide +kernel
theorem dX5_nameHere_21 : decode cX5_nameHere 21 = .ok (.getfield 57, 3) := by decide +kernel
theorem dX5_nameHere_24 : decode cX5_nameHere 24 = .ok (.isub, 1) := by decide +kernel
theorem dX5_nameHere_25 : decode cX5_nameHere 25 = .ok (.aload_n 0, 1) := by decide +kernel
theorem dX5_nameHere_26 : decode cX5_nameHere 26 = .ok (.getfield 19, 3) := by decide +kernel
theorem dX5_nameHere_29 : decode cX5_nameHere 29 = .ok (.iload_n 1, 1) := by decide +kernel
theorem dX5_nameHere_30 : decode cX5_nameHere 30 = .ok (.iconst 1, 1) := by decide +kernel
theorem dX5_nameHere_31 : decode cX5_nameHere 31 = .ok (.iadd, 1) := by decide +kernel
theorem dX5_nameHere_32 : decode cX5_nameHere 32 = .ok (.iaload, 1) := by decide +kernel
theorem dX5_nameHere_33 : decode cX5_nameHere 33 = .ok (.aload_n 0, 1) := by decide +kernel
theorem dX5_nameHere_34 : decode cX5_nameHere 34 = .ok (.getfield 19, 3) := by decide +kernel
theorem dX5_nameHere_37 : decode cX5_nameHere 37 = .ok (.iload_n 1, 1) := by decide +kernel
theorem dX5_nameHere_38 : decode cX5_nameHere 38 = .ok (.iaload, 1) := by decide +kernel
theorem dX5_nameHere_39 : decode cX5_nameHere 39 = .ok (.isub, 1) := by decide +kernel
theorem dX5_nameHere_40 : decode cX5_nameHere 40 = .ok (.if_icmp .ne 7, 3) := by decide +kernel
theorem dX5_nameHere_43 : decode cX5_nameHere 43 = .ok (.iconst 1, 1) := by decide +kernel
theorem dX5_nameHere_44 : decode cX5_nameHere 44 = .ok (.goto 4, 3) := by decide +kernel
theorem dX5_nameHere_47 : decode cX5_nameHere 47 = .ok (.iconst 0, 1) := by decide +kernel
theorem dX5_nameHere_48 : decode cX5_nameHere 48 = .ok (.istore_n 2, 1) := by decide +kernel
theorem dX5_nameHere_49 : decode cX5_nameHere 49 = .ok (.iconst 0, 1) := by decide +kernel
theorem dX5_nameHere_50 : decode cX5_nameHere 50 = .ok (.istore_n 3, 1) := by decide +kernel
theorem dX5_nameHere_51 : decode cX5_nameHere 51 = .ok (.iload_n 2, 1) := by decide +kernel
theorem dX5_nameHere_52 : decode cX5_nameHere 52 = .ok (.ifCond .eq 54, 3) := by decide +kernel
theorem dX5_nameHere_55 : decode cX5_nameHere 55 = .ok (.iload_n 3, 1) := by decide +kernel
theorem dX5_nameHere_56 : decode cX5_nameHere 56 = .ok (.aload_n 0, 1) := by decide +kernel
theorem dX5_nameHere_57 : decode cX5_nameHere 57 = .ok (.getfield 66, 3) := by decide +kernel
theorem dX5_nameHere_60 : decode cX5_nameHere 60 = .ok (.aload_n 0, 1) := by decide +kernel
theorem dX5_nameHere_61 : decode cX5_nameHere 61 = .ok (.getfield 57, 3) := by decide +kernel
theorem dX5_nameHere_64 : decode cX5_nameHere 64 = .ok (.isub, 1) := by decide +kernel
theorem dX5_nameHere_65 : decode cX5_nameHere 65 = .ok (.if_icmp .ge 41, 3) := by decide +kernel
theorem dX5_nameHere_68 : decode cX5_nameHere 68 = .ok (.aload_n 0, 1) := by decide +kernel
theorem dX5_nameHere_69 : decode cX5_nameHere 69 = .ok (.aload_n 0, 1) := by decide +kernel
theorem dX5_nameHere_70 : decode cX5_nameHere 70 = .ok (.getfield 57, 3) := by decide +kernel
theorem dX5_nameHere_73 : decode cX5_nameHere 73 = .ok (.iload_n 3, 1) := by decide +kernel
theorem dX5_nameHere_74 : decode cX5_nameHere 74 = .ok (.iadd, 1) := by decide +kernel
theorem dX5_nameHere_75 : decode cX5_nameHere 75 = .ok (.invokevirtual 69, 3) := by decide +kernel
theorem dX5_nameHere_78 : decode cX5_nameHere 78 = .ok (.aload_n 0, 1) := by decide +kernel
theorem dX5_nameHere_79 : decode cX5_nameHere 79 = .ok (.getfield 22, 3) := by decide +kernel
theorem dX5_nameHere_82 : decode cX5_nameHere 82 = .ok (.aload_n 0, 1) := by decide +kernel
theorem dX5_nameHere_83 : decode cX5_nameHere 83 = .ok (.getfield 19, 3) := by decide +kernel
theorem dX5_nameHere_86 : decode cX5_nameHere 86 = .ok (.iload_n 1, 1) := by decide +kernel
theorem dX5_nameHere_87 : decode cX5_nameHere 87 = .ok (.iaload, 1) := by decide +kernel
theorem dX5_nameHere_88 : decode cX5_nameHere 88 = .ok (.iload_n 3, 1) := by decide +kernel
theorem dX5_nameHere_89 : decode cX5_nameHere 89 = .ok (.iadd, 1) := by decide +kernel
theorem dX5_nameHere_90 : decode cX5_nameHere 90 = .ok (.iaload, 1) := by decide +kernel
theorem dX5_nameHere_91 : decode cX5_nameHere 91 = .ok (.if_icmp .ne 7, 3) := by decide +kernel
theorem dX5_nameHere_94 : decode cX5_nameHere 94 = .ok (.iconst 1, 1) := by decide +kernel
theorem dX5_nameHere_95 : decode cX5_nameHere 95 = .ok (.goto 4, 3) := by decide +kernel
theorem dX5_nameHere_98 : decode cX5_nameHere 98 = .ok (.iconst 0, 1) := by decide +kernel
theorem dX5_nameHere_99 : decode cX5_nameHere 99 = .ok (.istore_n 2, 1) := by decide +kernel
theorem dX5_nameHere_100 : decode cX5_nameHere 100 = .ok (.iinc 3 1, 3) := by decide +kernel
theorem dX5_nameHere_103 : decode cX5_nameHere 103 = .ok (.goto (-52), 3) := by decide +kernel
theorem dX5_nameHere_106 : decode cX5_nameHere 106 = .ok (.iload_n 2, 1) := by decide +kernel
theorem dX5_nameHere_107 : decode cX5_nameHere 107 = .ok (.ifCond .eq 5, 3) := by decide +kernel
theorem dX5_nameHere_110 : decode cX5_nameHere 110 = .ok (.iload_n 1, 1) := by decide +kernel
theorem dX5_nameHere_111 : decode cX5_nameHere 111 = .ok (.ireturn, 1) := by decide +kernel
theorem dX5_nameHere_112 : decode cX5_nameHere 112 = .ok (.iinc 1 1, 3) := by decide +kernel
theorem dX5_nameHere_115 : decode cX5_nameHere 115 = .ok (.goto (-113), 3) := by decide +kernel
theorem dX5_nameHere_118 : decode cX5_nameHere 118 = .ok (.bipush (-4), 2) := by decide +kernel
theorem dX5_nameHere_120 : decode cX5_nameHere 120 = .ok (.ireturn, 1) := by decide +kernel
theorem dX5_step_0 : decode cX5_step 0 = .ok (.aload_n 0, 1) := by decide +kernel
theorem dX5_step_1 : decode cX5_step 1 = .ok (.getfield 54, 3) := by decide +kernel
theorem dX5_step_4 : decode cX5_step 4 = .ok (.ifCond .le 4, 3) := by decide +kernel
theorem dX5_step_7 : decode cX5_step 7 = .ok (.return_, 1) := by decide +kernel
theorem dX5_step_8 : decode cX5_step 8 = .ok (.aload_n 0, 1) := by decide +kernel
theorem dX5_step_9 : decode cX5_step 9 = .ok (.aload_n 0, 1) := by decide +kernel
theorem dX5_step_10 : decode cX5_step 10 = .ok (.getfield 66, 3) := by decide +kernel
theorem dX5_step_13 : decode cX5_step 13 = .ok (.invokevirtual 69, 3) := by decide +kernel
theorem dX5_step_16 : decode cX5_step 16 = .ok (.bipush 32, 2) := by decide +kernel
theorem dX5_step_18 : decode cX5_step 18 = .ok (.if_icmp .ne 16, 3) := by decide +kernel
theorem dX5_step_21 : decode cX5_step 21 = .ok (.aload_n 0, 1) := by decide +kernel
theorem dX5_step_22 : decode cX5_step 22 = .ok (.dup, 1) := by decide +kernel
theorem dX5_step_23 : decode cX5_step 23 = .ok (.getfield 66, 3) := by decide +kernel
theorem dX5_step_26 : decode cX5_step 26 = .ok (.iconst 1, 1) := by decide +kernel
theorem dX5_step_27 : decode cX5_step 27 = .ok (.iadd, 1) := by decide +kernel
theorem dX5_step_28 : decode cX5_step 28 = .ok (.putfield 66, 3) := by decide +kernel
theorem dX5_step_31 : decode cX5_step 31 = .ok (.goto (-23), 3) := by decide +kernel
theorem dX5_step_34 : decode cX5_step 34 = .ok (.aload_n 0, 1) := by decide +kernel
theorem dX5_step_35 : decode cX5_step 35 = .ok (.aload_n 0, 1) := by decide +kernel
theorem dX5_step_36 : decode cX5_step 36 = .ok (.getfield 66, 3) := by decide +kernel
theorem dX5_step_39 : decode cX5_step 39 = .ok (.putfield 57, 3) := by decide +kernel
theorem dX5_step_42 : decode cX5_step 42 = .ok (.aload_n 0, 1) := by decide +kernel
theorem dX5_step_43 : decode cX5_step 43 = .ok (.aload_n 0, 1) := by decide +kernel
theorem dX5_step_44 : decode cX5_step 44 = .ok (.getfield 66, 3) := by decide +kernel
theorem dX5_step_47 : decode cX5_step 47 = .ok (.invokevirtual 69, 3) := by decide +kernel
theorem dX5_step_50 : decode cX5_step 50 = .ok (.istore_n 1, 1) := by decide +kernel
theorem dX5_step_51 : decode cX5_step 51 = .ok (.aload_n 0, 1) := by decide +kernel
theorem dX5_step_52 : decode cX5_step 52 = .ok (.iconst 0, 1) := by decide +kernel
theorem dX5_step_53 : decode cX5_step 53 = .ok (.putfield 73, 3) := by decide +kernel
theorem dX5_step_56 : decode cX5_step 56 = .ok (.iload_n 1, 1) := by decide +kernel
theorem dX5_step_57 : decode cX5_step 57 = .ok (.bipush (-4), 2) := by decide +kernel
theorem dX5_step_59 : decode cX5_step 59 = .ok (.if_icmp .ne 11, 3) := by decide +kernel
theorem dX5_step_62 : decode cX5_step 62 = .ok (.aload_n 0, 1) := by decide +kernel
theorem dX5_step_63 : decode cX5_step 63 = .ok (.iconst 0, 1) := by decide +kernel
theorem dX5_step_64 : decode cX5_step 64 = .ok (.putfield 63, 3) := by decide +kernel
theorem dX5_step_67 : decode cX5_step 67 = .ok (.goto 202, 3) := by decide +kernel
theorem dX5_step_70 : decode cX5_step 70 = .ok (.iload_n 1, 1) := by decide +kernel
theorem dX5_step_71 : decode cX5_step 71 = .ok (.i2l, 1) := by decide +kernel
theorem dX5_step_72 : decode cX5_step 72 = .ok (.ldc2_w 76, 3) := by decide +kernel
theorem dX5_step_75 : decode cX5_step 75 = .ok (.ldc2_w 78, 3) := by decide +kernel
theorem dX5_step_78 : decode cX5_step 78 = .ok (.invokestatic 46, 3) := by decide +kernel
theorem dX5_step_81 : decode cX5_step 81 = .ok (.ifCond .eq 45, 3) := by decide +kernel
theorem dX5_step_84 : decode cX5_step 84 = .ok (.aload_n 0, 1) := by decide +kernel
theorem dX5_step_85 : decode cX5_step 85 = .ok (.aload_n 0, 1) := by decide +kernel
theorem dX5_step_86 : decode cX5_step 86 = .ok (.getfield 66, 3) := by decide +kernel
theorem dX5_step_89 : decode cX5_step 89 = .ok (.invokevirtual 69, 3) := by decide +kernel
theorem dX5_step_92 : decode cX5_step 92 = .ok (.i2l, 1) := by decide +kernel
theorem dX5_step_93 : decode cX5_step 93 = .ok (.ldc2_w 76, 3) := by decide +kernel
theorem dX5_step_96 : decode cX5_step 96 = .ok (.ldc2_w 78, 3) := by decide +kernel
theorem dX5_step_99 : decode cX5_step 99 = .ok (.invokestatic 46, 3) := by decide +kernel
theorem dX5_step_102 : decode cX5_step 102 = .ok (.ifCond .eq 16, 3) := by decide +kernel
theorem dX5_step_105 : decode cX5_step 105 = .ok (.aload_n 0, 1) := by decide +kernel
theorem dX5_step_106 : decode cX5_step 106 = .ok (.dup, 1) := by decide +kernel
theorem dX5_step_107 : decode cX5_step 107 = .ok (.getfield 66, 3) := by decide +kernel
theorem dX5_step_110 : decode cX5_step 110 = .ok (.iconst 1, 1) := by decide +kernel
theorem dX5_step_111 : decode cX5_step 111 = .ok (.iadd, 1) := by decide +kernel
theorem dX5_step_112 : decode cX5_step 112 = .ok (.putfield 66, 3) := by decide +kernel
theorem dX5_step_115 : decode cX5_step 115 = .ok (.goto (-31), 3) := by decide +kernel
theorem dX5_step_118 : decode cX5_step 118 = .ok (.aload_n 0, 1) := by decide +kernel
theorem dX5_step_119 : decode cX5_step 119 = .ok (.iconst 1, 1) := by decide +kernel
theorem dX5_step_120 : decode cX5_step 120 = .ok (.putfield 63, 3) := by decide +kernel
theorem dX5_step_123 : decode cX5_step 123 = .ok (.goto 146, 3) := by decide +kernel
theorem dX5_step_126 : decode cX5_step 126 = .ok (.iload_n 1, 1) := by decide +kernel
theorem dX5_step_127 : decode cX5_step 127 = .ok (.i2l, 1) := by decide +kernel
theorem dX5_step_128 : decode cX5_step 128 = .ok (.ldc2_w 80, 3) := by decide +kernel
theorem dX5_step_131 : decode cX5_step 131 = .ok (.ldc2_w 82, 3) := by decide +kernel
theorem dX5_step_134 : decode cX5_step 134 = .ok (.invokestatic 46, 3) := by decide +kernel
theorem dX5_step_137 : decode cX5_step 137 = .ok (.ifCond .eq 106, 3) := by decide +kernel
theorem dX5_step_140 : decode cX5_step 140 = .ok (.aload_n 0, 1) := by decide +kernel
theorem dX5_step_141 : decode cX5_step 141 = .ok (.aload_n 0, 1) := by decide +kernel
theorem dX5_step_142 : decode cX5_step 142 = .ok (.getfield 66, 3) := by decide +kernel
theorem dX5_step_145 : decode cX5_step 145 = .ok (.invokevirtual 69, 3) := by decide +kernel
theorem dX5_step_148 : decode cX5_step 148 = .ok (.i2l, 1) := by decide +kernel
theorem dX5_step_149 : decode cX5_step 149 = .ok (.ldc2_w 80, 3) := by decide +kernel
theorem dX5_step_152 : decode cX5_step 152 = .ok (.ldc2_w 82, 3) := by decide +kernel
theorem dX5_step_155 : decode cX5_step 155 = .ok (.invokestatic 46, 3) := by decide +kernel
theorem dX5_step_158 : decode cX5_step 158 = .ok (.ifCond .eq 59, 3) := by decide +kernel
theorem dX5_step_161 : decode cX5_step 161 = .ok (.aload_n 0, 1) := by decide +kernel
theorem dX5_step_162 : decode cX5_step 162 = .ok (.aload_n 0, 1) := by decide +kernel
theorem dX5_step_163 : decode cX5_step 163 = .ok (.getfield 66, 3) := by decide +kernel
theorem dX5_step_166 : decode cX5_step 166 = .ok (.aload_n 0, 1) := by decide +kernel
theorem dX5_step_167 : decode cX5_step 167 = .ok (.getfield 57, 3) := by decide +kernel
theorem dX5_step_170 : decode cX5_step 170 = .ok (.isub, 1) := by decide +kernel
theorem dX5_step_171 : decode cX5_step 171 = .ok (.iconst 2, 1) := by decide +kernel
theorem dX5_step_172 : decode cX5_step 172 = .ok (.if_icmp .ge 25, 3) := by decide +kernel
theorem dX5_step_175 : decode cX5_step 175 = .ok (.bipush 10, 2) := by decide +kernel
theorem dX5_step_177 : decode cX5_step 177 = .ok (.aload_n 0, 1) := by decide +kernel
theorem dX5_step_178 : decode cX5_step 178 = .ok (.getfield 73, 3) := by decide +kernel
theorem dX5_step_181 : decode cX5_step 181 = .ok (.imul, 1) := by decide +kernel
theorem dX5_step_182 : decode cX5_step 182 = .ok (.aload_n 0, 1) := by decide +kernel
theorem dX5_step_183 : decode cX5_step 183 = .ok (.aload_n 0, 1) := by decide +kernel
theorem dX5_step_184 : decode cX5_step 184 = .ok (.getfield 66, 3) := by decide +kernel
theorem dX5_step_187 : decode cX5_step 187 = .ok (.invokevirtual 69, 3) := by decide +kernel
theorem dX5_step_190 : decode cX5_step 190 = .ok (.iadd, 1) := by decide +kernel
theorem dX5_step_191 : decode cX5_step 191 = .ok (.bipush 48, 2) := by decide +kernel
theorem dX5_step_193 : decode cX5_step 193 = .ok (.isub, 1) := by decide +kernel
theorem dX5_step_194 : decode cX5_step 194 = .ok (.goto 7, 3) := by decide +kernel
theorem dX5_step_197 : decode cX5_step 197 = .ok (.aload_n 0, 1) := by decide +kernel
theorem dX5_step_198 : decode cX5_step 198 = .ok (.getfield 73, 3) := by decide +kernel
theorem dX5_step_201 : decode cX5_step 201 = .ok (.putfield 73, 3) := by decide +kernel
theorem dX5_step_204 : decode cX5_step 204 = .ok (.aload_n 0, 1) := by decide +kernel
theorem dX5_step_205 : decode cX5_step 205 = .ok (.dup, 1) := by decide +kernel
theorem dX5_step_206 : decode cX5_step 206 = .ok (.getfield 66, 3) := by decide +kernel
theorem dX5_step_209 : decode cX5_step 209 = .ok (.iconst 1, 1) := by decide +kernel
theorem dX5_step_210 : decode cX5_step 210 = .ok (.iadd, 1) := by decide +kernel
theorem dX5_step_211 : decode cX5_step 211 = .ok (.putfield 66, 3) := by decide +kernel
theorem dX5_step_214 : decode cX5_step 214 = .ok (.goto (-74), 3) := by decide +kernel
theorem dX5_step_217 : decode cX5_step 217 = .ok (.aload_n 0, 1) := by decide +kernel
theorem dX5_step_218 : decode cX5_step 218 = .ok (.iconst 2, 1) := by decide +kernel
theorem dX5_step_219 : decode cX5_step 219 = .ok (.putfield 63, 3) := by decide +kernel
theorem dX5_step_222 : decode cX5_step 222 = .ok (.aload_n 0, 1) := by decide +kernel
theorem dX5_step_223 : decode cX5_step 223 = .ok (.getfield 66, 3) := by decide +kernel
theorem dX5_step_226 : decode cX5_step 226 = .ok (.aload_n 0, 1) := by decide +kernel
theorem dX5_step_227 : decode cX5_step 227 = .ok (.getfield 57, 3) := by decide +kernel
theorem dX5_step_230 : decode cX5_step 230 = .ok (.isub, 1) := by decide +kernel
theorem dX5_step_231 : decode cX5_step 231 = .ok (.iconst 2, 1) := by decide +kernel
theorem dX5_step_232 : decode cX5_step 232 = .ok (.if_icmp .le 37, 3) := by decide +kernel
theorem dX5_step_235 : decode cX5_step 235 = .ok (.aload_n 0, 1) := by decide +kernel
theorem dX5_step_236 : decode cX5_step 236 = .ok (.iconst 1, 1) := by decide +kernel
theorem dX5_step_237 : decode cX5_step 237 = .ok (.invokevirtual 84, 3) := by decide +kernel
theorem dX5_step_240 : decode cX5_step 240 = .ok (.goto 29, 3) := by decide +kernel
theorem dX5_step_243 : decode cX5_step 243 = .ok (.aload_n 0, 1) := by decide +kernel
theorem dX5_step_244 : decode cX5_step 244 = .ok (.iconst 3, 1) := by decide +kernel
theorem dX5_step_245 : decode cX5_step 245 = .ok (.putfield 63, 3) := by decide +kernel
theorem dX5_step_248 : decode cX5_step 248 = .ok (.aload_n 0, 1) := by decide +kernel
theorem dX5_step_249 : decode cX5_step 249 = .ok (.dup, 1) := by decide +kernel
theorem dX5_step_250 : decode cX5_step 250 = .ok (.getfield 66, 3) := by decide +kernel
theorem dX5_step_253 : decode cX5_step 253 = .ok (.iconst 1, 1) := by decide +kernel
theorem dX5_step_254 : decode cX5_step 254 = .ok (.iadd, 1) := by decide +kernel
theorem dX5_step_255 : decode cX5_step 255 = .ok (.putfield 66, 3) := by decide +kernel
theorem dX5_step_258 : decode cX5_step 258 = .ok (.iload_n 1, 1) := by decide +kernel
theorem dX5_step_259 : decode cX5_step 259 = .ok (.bipush 59, 2) := by decide +kernel
theorem dX5_step_261 : decode cX5_step 261 = .ok (.if_icmp .eq 8, 3) := by decide +kernel
theorem dX5_step_264 : decode cX5_step 264 = .ok (.aload_n 0, 1) := by decide +kernel
theorem dX5_step_265 : decode cX5_step 265 = .ok (.iconst 1, 1) := by decide +kernel
theorem dX5_step_266 : decode cX5_step 266 = .ok (.invokevirtual 84, 3) := by decide +kernel
theorem dX5_step_269 : decode cX5_step 269 = .ok (.return_, 1) := by decide +kernel
theorem dX5_number_0 : decode cX5_number 0 = .ok (.aload_n 0, 1) := by decide +kernel
theorem dX5_number_1 : decode cX5_number 1 = .ok (.getfield 54, 3) := by decide +kernel
theorem dX5_number_4 : decode cX5_number 4 = .ok (.ifCond .ne 16, 3) := by decide +kernel
theorem dX5_number_7 : decode cX5_number 7 = .ok (.aload_n 0, 1) := by decide +kernel
theorem dX5_number_8 : decode cX5_number 8 = .ok (.getfield 63, 3) := by decide +kernel
theorem dX5_number_11 : decode cX5_number 11 = .ok (.iconst 2, 1) := by decide +kernel
theorem dX5_number_12 : decode cX5_number 12 = .ok (.if_icmp .eq 8, 3) := by decide +kernel
theorem dX5_number_15 : decode cX5_number 15 = .ok (.aload_n 0, 1) := by decide +kernel
theorem dX5_number_16 : decode cX5_number 16 = .ok (.iconst 2, 1) := by decide +kernel
theorem dX5_number_17 : decode cX5_number 17 = .ok (.invokevirtual 84, 3) := by decide +kernel
theorem dX5_number_20 : decode cX5_number 20 = .ok (.aload_n 0, 1) := by decide +kernel
theorem dX5_number_21 : decode cX5_number 21 = .ok (.getfield 54, 3) := by decide +kernel
theorem dX5_number_24 : decode cX5_number 24 = .ok (.ifCond .ne 23, 3) := by decide +kernel
theorem dX5_number_27 : decode cX5_number 27 = .ok (.aload_n 0, 1) := by decide +kernel
theorem dX5_number_28 : decode cX5_number 28 = .ok (.getfield 73, 3) := by decide +kernel
theorem dX5_number_31 : decode cX5_number 31 = .ok (.i2l, 1) := by decide +kernel
theorem dX5_number_32 : decode cX5_number 32 = .ok (.iload_n 1, 1) := by decide +kernel
theorem dX5_number_33 : decode cX5_number 33 = .ok (.i2l, 1) := by decide +kernel
theorem dX5_number_34 : decode cX5_number 34 = .ok (.iload_n 2, 1) := by decide +kernel
theorem dX5_number_35 : decode cX5_number 35 = .ok (.i2l, 1) := by decide +kernel
theorem dX5_number_36 : decode cX5_number 36 = .ok (.invokestatic 46, 3) := by decide +kernel
theorem dX5_number_39 : decode cX5_number 39 = .ok (.ifCond .ne 8, 3) := by decide +kernel
theorem dX5_number_42 : decode cX5_number 42 = .ok (.aload_n 0, 1) := by decide +kernel
theorem dX5_number_43 : decode cX5_number 43 = .ok (.iconst 3, 1) := by decide +kernel
theorem dX5_number_44 : decode cX5_number 44 = .ok (.invokevirtual 84, 3) := by decide +kernel
theorem dX5_number_47 : decode cX5_number 47 = .ok (.aload_n 0, 1) := by decide +kernel
theorem dX5_number_48 : decode cX5_number 48 = .ok (.getfield 54, 3) := by decide +kernel
theorem dX5_number_51 : decode cX5_number 51 = .ok (.ifCond .ne 10, 3) := by decide +kernel
theorem dX5_number_54 : decode cX5_number 54 = .ok (.aload_n 0, 1) := by decide +kernel
theorem dX5_number_55 : decode cX5_number 55 = .ok (.getfield 73, 3) := by decide +kernel
theorem dX5_number_58 : decode cX5_number 58 = .ok (.goto 4, 3) := by decide +kernel
theorem dX5_number_61 : decode cX5_number 61 = .ok (.iload_n 1, 1) := by decide +kernel
theorem dX5_number_62 : decode cX5_number 62 = .ok (.istore_n 3, 1) := by decide +kernel
theorem dX5_number_63 : decode cX5_number 63 = .ok (.aload_n 0, 1) := by decide +kernel
theorem dX5_number_64 : decode cX5_number 64 = .ok (.invokevirtual 88, 3) := by decide +kernel
theorem dX5_number_67 : decode cX5_number 67 = .ok (.iload_n 3, 1) := by decide +kernel
theorem dX5_number_68 : decode cX5_number 68 = .ok (.ireturn, 1) := by decide +kernel
theorem dX5_readTrust_0 : decode cX5_readTrust 0 = .ok (.aload_n 0, 1) := by decide +kernel
theorem dX5_readTrust_1 : decode cX5_readTrust 1 = .ok (.getfield 54, 3) := by decide +kernel
theorem dX5_readTrust_4 : decode cX5_readTrust 4 = .ok (.ifCond .ne 46, 3) := by decide +kernel
theorem dX5_readTrust_7 : decode cX5_readTrust 7 = .ok (.aload_n 0, 1) := by decide +kernel
theorem dX5_readTrust_8 : decode cX5_readTrust 8 = .ok (.getfield 63, 3) := by decide +kernel
theorem dX5_readTrust_11 : decode cX5_readTrust 11 = .ok (.iconst 2, 1) := by decide +kernel
theorem dX5_readTrust_12 : decode cX5_readTrust 12 = .ok (.if_icmp .ne 38, 3) := by decide +kernel
theorem dX5_readTrust_15 : decode cX5_readTrust 15 = .ok (.aload_n 0, 1) := by decide +kernel
theorem dX5_readTrust_16 : decode cX5_readTrust 16 = .ok (.getfield 73, 3) := by decide +kernel
theorem dX5_readTrust_19 : decode cX5_readTrust 19 = .ok (.i2l, 1) := by decide +kernel
theorem dX5_readTrust_20 : decode cX5_readTrust 20 = .ok (.lconst 0, 1) := by decide +kernel
theorem dX5_readTrust_21 : decode cX5_readTrust 21 = .ok (.ldc2_w 91, 3) := by decide +kernel
theorem dX5_readTrust_24 : decode cX5_readTrust 24 = .ok (.invokestatic 46, 3) := by decide +kernel
theorem dX5_readTrust_27 : decode cX5_readTrust 27 = .ok (.ifCond .eq 23, 3) := by decide +kernel
theorem dX5_readTrust_30 : decode cX5_readTrust 30 = .ok (.aload_n 0, 1) := by decide +kernel
theorem dX5_readTrust_31 : decode cX5_readTrust 31 = .ok (.getfield 93, 3) := by decide +kernel
theorem dX5_readTrust_34 : decode cX5_readTrust 34 = .ok (.aload_n 0, 1) := by decide +kernel
theorem dX5_readTrust_35 : decode cX5_readTrust 35 = .ok (.getfield 73, 3) := by decide +kernel
theorem dX5_readTrust_38 : decode cX5_readTrust 38 = .ok (.ishr, 1) := by decide +kernel
theorem dX5_readTrust_39 : decode cX5_readTrust 39 = .ok (.iconst 1, 1) := by decide +kernel
theorem dX5_readTrust_40 : decode cX5_readTrust 40 = .ok (.iand, 1) := by decide +kernel
theorem dX5_readTrust_41 : decode cX5_readTrust 41 = .ok (.iconst 1, 1) := by decide +kernel
theorem dX5_readTrust_42 : decode cX5_readTrust 42 = .ok (.if_icmp .ne 8, 3) := by decide +kernel
theorem dX5_readTrust_45 : decode cX5_readTrust 45 = .ok (.aload_n 0, 1) := by decide +kernel
theorem dX5_readTrust_46 : decode cX5_readTrust 46 = .ok (.iconst 4, 1) := by decide +kernel
theorem dX5_readTrust_47 : decode cX5_readTrust 47 = .ok (.invokevirtual 84, 3) := by decide +kernel
theorem dX5_readTrust_50 : decode cX5_readTrust 50 = .ok (.aload_n 0, 1) := by decide +kernel
theorem dX5_readTrust_51 : decode cX5_readTrust 51 = .ok (.iconst 0, 1) := by decide +kernel
theorem dX5_readTrust_52 : decode cX5_readTrust 52 = .ok (.iconst 3, 1) := by decide +kernel
theorem dX5_readTrust_53 : decode cX5_readTrust 53 = .ok (.invokevirtual 96, 3) := by decide +kernel
theorem dX5_readTrust_56 : decode cX5_readTrust 56 = .ok (.istore_n 1, 1) := by decide +kernel
theorem dX5_readTrust_57 : decode cX5_readTrust 57 = .ok (.aload_n 0, 1) := by decide +kernel
theorem dX5_readTrust_58 : decode cX5_readTrust 58 = .ok (.dup, 1) := by decide +kernel
theorem dX5_readTrust_59 : decode cX5_readTrust 59 = .ok (.getfield 93, 3) := by decide +kernel
theorem dX5_readTrust_62 : decode cX5_readTrust 62 = .ok (.iconst 1, 1) := by decide +kernel
theorem dX5_readTrust_63 : decode cX5_readTrust 63 = .ok (.iload_n 1, 1) := by decide +kernel
theorem dX5_readTrust_64 : decode cX5_readTrust 64 = .ok (.ishl, 1) := by decide +kernel
theorem dX5_readTrust_65 : decode cX5_readTrust 65 = .ok (.ior, 1) := by decide +kernel
theorem dX5_readTrust_66 : decode cX5_readTrust 66 = .ok (.putfield 93, 3) := by decide +kernel
theorem dX5_readTrust_69 : decode cX5_readTrust 69 = .ok (.aload_n 0, 1) := by decide +kernel
theorem dX5_readTrust_70 : decode cX5_readTrust 70 = .ok (.getfield 13, 3) := by decide +kernel
theorem dX5_readTrust_73 : decode cX5_readTrust 73 = .ok (.bipush 16, 2) := by decide +kernel
theorem dX5_readTrust_75 : decode cX5_readTrust 75 = .ok (.iload_n 1, 1) := by decide +kernel
theorem dX5_readTrust_76 : decode cX5_readTrust 76 = .ok (.iadd, 1) := by decide +kernel
theorem dX5_readTrust_77 : decode cX5_readTrust 77 = .ok (.aload_n 0, 1) := by decide +kernel
theorem dX5_readTrust_78 : decode cX5_readTrust 78 = .ok (.iconst 0, 1) := by decide +kernel
theorem dX5_readTrust_79 : decode cX5_readTrust 79 = .ok (.bipush 9, 2) := by decide +kernel
theorem dX5_readTrust_81 : decode cX5_readTrust 81 = .ok (.invokevirtual 96, 3) := by decide +kernel
theorem dX5_readTrust_84 : decode cX5_readTrust 84 = .ok (.iconst 1, 1) := by decide +kernel
theorem dX5_readTrust_85 : decode cX5_readTrust 85 = .ok (.isub, 1) := by decide +kernel
theorem dX5_readTrust_86 : decode cX5_readTrust 86 = .ok (.iastore, 1) := by decide +kernel
theorem dX5_readTrust_87 : decode cX5_readTrust 87 = .ok (.return_, 1) := by decide +kernel
theorem dX5_readReport_0 : decode cX5_readReport 0 = .ok (.aload_n 0, 1) := by decide +kernel
theorem dX5_readReport_1 : decode cX5_readReport 1 = .ok (.getfield 13, 3) := by decide +kernel
theorem dX5_readReport_4 : decode cX5_readReport 4 = .ok (.bipush 52, 2) := by decide +kernel
theorem dX5_readReport_6 : decode cX5_readReport 6 = .ok (.iaload, 1) := by decide +kernel
theorem dX5_readReport_7 : decode cX5_readReport 7 = .ok (.istore_n 1, 1) := by decide +kernel
theorem dX5_readReport_8 : decode cX5_readReport 8 = .ok (.aload_n 0, 1) := by decide +kernel
theorem dX5_readReport_9 : decode cX5_readReport 9 = .ok (.getfield 13, 3) := by decide +kernel
theorem dX5_readReport_12 : decode cX5_readReport 12 = .ok (.bipush 20, 2) := by decide +kernel
theorem dX5_readReport_14 : decode cX5_readReport 14 = .ok (.iload_n 1, 1) := by decide +kernel
theorem dX5_readReport_15 : decode cX5_readReport 15 = .ok (.iadd, 1) := by decide +kernel
theorem dX5_readReport_16 : decode cX5_readReport 16 = .ok (.aload_n 0, 1) := by decide +kernel
theorem dX5_readReport_17 : decode cX5_readReport 17 = .ok (.iconst 0, 1) := by decide +kernel
theorem dX5_readReport_18 : decode cX5_readReport 18 = .ok (.bipush 99, 2) := by decide +kernel
theorem dX5_readReport_20 : decode cX5_readReport 20 = .ok (.invokevirtual 96, 3) := by decide +kernel
theorem dX5_readReport_23 : decode cX5_readReport 23 = .ok (.iastore, 1) := by decide +kernel
theorem dX5_readReport_24 : decode cX5_readReport 24 = .ok (.aload_n 0, 1) := by decide +kernel
theorem dX5_readReport_25 : decode cX5_readReport 25 = .ok (.getfield 13, 3) := by decide +kernel
theorem dX5_readReport_28 : decode cX5_readReport 28 = .ok (.bipush 28, 2) := by decide +kernel
theorem dX5_readReport_30 : decode cX5_readReport 30 = .ok (.iload_n 1, 1) := by decide +kernel
theorem dX5_readReport_31 : decode cX5_readReport 31 = .ok (.iadd, 1) := by decide +kernel
theorem dX5_readReport_32 : decode cX5_readReport 32 = .ok (.aload_n 0, 1) := by decide +kernel
theorem dX5_readReport_33 : decode cX5_readReport 33 = .ok (.iconst 0, 1) := by decide +kernel
theorem dX5_readReport_34 : decode cX5_readReport 34 = .ok (.iconst 3, 1) := by decide +kernel
theorem dX5_readReport_35 : decode cX5_readReport 35 = .ok (.invokevirtual 96, 3) := by decide +kernel
theorem dX5_readReport_38 : decode cX5_readReport 38 = .ok (.iastore, 1) := by decide +kernel
theorem dX5_readReport_39 : decode cX5_readReport 39 = .ok (.aload_n 0, 1) := by decide +kernel
theorem dX5_readReport_40 : decode cX5_readReport 40 = .ok (.iconst 0, 1) := by decide +kernel
theorem dX5_readReport_41 : decode cX5_readReport 41 = .ok (.iconst 4, 1) := by decide +kernel
theorem dX5_readReport_42 : decode cX5_readReport 42 = .ok (.invokevirtual 96, 3) := by decide +kernel
theorem dX5_readReport_45 : decode cX5_readReport 45 = .ok (.istore_n 2, 1) := by decide +kernel
theorem dX5_readReport_46 : decode cX5_readReport 46 = .ok (.aload_n 0, 1) := by decide +kernel
theorem dX5_readReport_47 : decode cX5_readReport 47 = .ok (.iload_n 2, 1) := by decide +kernel
theorem dX5_readReport_48 : decode cX5_readReport 48 = .ok (.aload_n 0, 1) := by decide +kernel
theorem dX5_readReport_49 : decode cX5_readReport 49 = .ok (.getfield 100, 3) := by decide +kernel
theorem dX5_readReport_52 : decode cX5_readReport 52 = .ok (.if_icmp .le 7, 3) := by decide +kernel
theorem dX5_readReport_55 : decode cX5_readReport 55 = .ok (.iload_n 2, 1) := by decide +kernel
theorem dX5_readReport_56 : decode cX5_readReport 56 = .ok (.goto 7, 3) := by decide +kernel
theorem dX5_readReport_59 : decode cX5_readReport 59 = .ok (.aload_n 0, 1) := by decide +kernel
theorem dX5_readReport_60 : decode cX5_readReport 60 = .ok (.getfield 100, 3) := by decide +kernel
theorem dX5_readReport_63 : decode cX5_readReport 63 = .ok (.putfield 100, 3) := by decide +kernel
theorem dX5_readReport_66 : decode cX5_readReport 66 = .ok (.aload_n 0, 1) := by decide +kernel
theorem dX5_readReport_67 : decode cX5_readReport 67 = .ok (.getfield 13, 3) := by decide +kernel
theorem dX5_readReport_70 : decode cX5_readReport 70 = .ok (.bipush 36, 2) := by decide +kernel
theorem dX5_readReport_72 : decode cX5_readReport 72 = .ok (.iload_n 1, 1) := by decide +kernel
theorem dX5_readReport_73 : decode cX5_readReport 73 = .ok (.iadd, 1) := by decide +kernel
theorem dX5_readReport_74 : decode cX5_readReport 74 = .ok (.iload_n 2, 1) := by decide +kernel
theorem dX5_readReport_75 : decode cX5_readReport 75 = .ok (.iastore, 1) := by decide +kernel
theorem dX5_readReport_76 : decode cX5_readReport 76 = .ok (.aload_n 0, 1) := by decide +kernel
theorem dX5_readReport_77 : decode cX5_readReport 77 = .ok (.getfield 13, 3) := by decide +kernel
theorem dX5_readReport_80 : decode cX5_readReport 80 = .ok (.bipush 44, 2) := by decide +kernel
theorem dX5_readReport_82 : decode cX5_readReport 82 = .ok (.iload_n 1, 1) := by decide +kernel
theorem dX5_readReport_83 : decode cX5_readReport 83 = .ok (.iadd, 1) := by decide +kernel
theorem dX5_readReport_84 : decode cX5_readReport 84 = .ok (.aload_n 0, 1) := by decide +kernel
theorem dX5_readReport_85 : decode cX5_readReport 85 = .ok (.iconst 0, 1) := by decide +kernel
theorem dX5_readReport_86 : decode cX5_readReport 86 = .ok (.iconst 3, 1) := by decide +kernel
theorem dX5_readReport_87 : decode cX5_readReport 87 = .ok (.invokevirtual 96, 3) := by decide +kernel
theorem dX5_readReport_90 : decode cX5_readReport 90 = .ok (.iastore, 1) := by decide +kernel
theorem dX5_readReport_91 : decode cX5_readReport 91 = .ok (.aload_n 0, 1) := by decide +kernel
theorem dX5_readReport_92 : decode cX5_readReport 92 = .ok (.getfield 13, 3) := by decide +kernel
theorem dX5_readReport_95 : decode cX5_readReport 95 = .ok (.bipush 52, 2) := by decide +kernel
theorem dX5_readReport_97 : decode cX5_readReport 97 = .ok (.dup2, 1) := by decide +kernel
theorem dX5_readReport_98 : decode cX5_readReport 98 = .ok (.iaload, 1) := by decide +kernel
theorem dX5_readReport_99 : decode cX5_readReport 99 = .ok (.iconst 1, 1) := by decide +kernel
theorem dX5_readReport_100 : decode cX5_readReport 100 = .ok (.iadd, 1) := by decide +kernel
theorem dX5_readReport_101 : decode cX5_readReport 101 = .ok (.iastore, 1) := by decide +kernel
theorem dX5_readReport_102 : decode cX5_readReport 102 = .ok (.return_, 1) := by decide +kernel
theorem dX5_readMore_0 : decode cX5_readMore 0 = .ok (.iload_n 1, 1) := by decide +kernel
theorem dX5_readMore_1 : decode cX5_readMore 1 = .ok (.iconst 3, 1) := by decide +kernel
theorem dX5_readMore_2 : decode cX5_readMore 2 = .ok (.if_icmp .gt 63, 3) := by decide +kernel
theorem dX5_readMore_5 : decode cX5_readMore 5 = .ok (.aload_n 0, 1) := by decide +kernel
theorem dX5_readMore_6 : decode cX5_readMore 6 = .ok (.getfield 13, 3) := by decide +kernel
theorem dX5_readMore_9 : decode cX5_readMore 9 = .ok (.aload_n 0, 1) := by decide +kernel
theorem dX5_readMore_10 : decode cX5_readMore 10 = .ok (.getfield 103, 3) := by decide +kernel
theorem dX5_readMore_13 : decode cX5_readMore 13 = .ok (.iload_n 1, 1) := by decide +kernel
theorem dX5_readMore_14 : decode cX5_readMore 14 = .ok (.iastore, 1) := by decide +kernel
theorem dX5_readMore_15 : decode cX5_readMore 15 = .ok (.aload_n 0, 1) := by decide +kernel
theorem dX5_readMore_16 : decode cX5_readMore 16 = .ok (.getfield 13, 3) := by decide +kernel
theorem dX5_readMore_19 : decode cX5_readMore 19 = .ok (.iconst 5, 1) := by decide +kernel
theorem dX5_readMore_20 : decode cX5_readMore 20 = .ok (.aload_n 0, 1) := by decide +kernel
theorem dX5_readMore_21 : decode cX5_readMore 21 = .ok (.getfield 103, 3) := by decide +kernel
theorem dX5_readMore_24 : decode cX5_readMore 24 = .ok (.iadd, 1) := by decide +kernel
theorem dX5_readMore_25 : decode cX5_readMore 25 = .ok (.aload_n 0, 1) := by decide +kernel
theorem dX5_readMore_26 : decode cX5_readMore 26 = .ok (.iconst 0, 1) := by decide +kernel
theorem dX5_readMore_27 : decode cX5_readMore 27 = .ok (.bipush 15, 2) := by decide +kernel
theorem dX5_readMore_29 : decode cX5_readMore 29 = .ok (.invokevirtual 96, 3) := by decide +kernel
theorem dX5_readMore_32 : decode cX5_readMore 32 = .ok (.iastore, 1) := by decide +kernel
theorem dX5_readMore_33 : decode cX5_readMore 33 = .ok (.aload_n 0, 1) := by decide +kernel
theorem dX5_readMore_34 : decode cX5_readMore 34 = .ok (.getfield 13, 3) := by decide +kernel
theorem dX5_readMore_37 : decode cX5_readMore 37 = .ok (.bipush 10, 2) := by decide +kernel
theorem dX5_readMore_39 : decode cX5_readMore 39 = .ok (.aload_n 0, 1) := by decide +kernel
theorem dX5_readMore_40 : decode cX5_readMore 40 = .ok (.getfield 103, 3) := by decide +kernel
theorem dX5_readMore_43 : decode cX5_readMore 43 = .ok (.iadd, 1) := by decide +kernel
theorem dX5_readMore_44 : decode cX5_readMore 44 = .ok (.aload_n 0, 1) := by decide +kernel
theorem dX5_readMore_45 : decode cX5_readMore 45 = .ok (.iconst 1, 1) := by decide +kernel
theorem dX5_readMore_46 : decode cX5_readMore 46 = .ok (.bipush 99, 2) := by decide +kernel
theorem dX5_readMore_48 : decode cX5_readMore 48 = .ok (.invokevirtual 96, 3) := by decide +kernel
theorem dX5_readMore_51 : decode cX5_readMore 51 = .ok (.iastore, 1) := by decide +kernel
theorem dX5_readMore_52 : decode cX5_readMore 52 = .ok (.aload_n 0, 1) := by decide +kernel
theorem dX5_readMore_53 : decode cX5_readMore 53 = .ok (.dup, 1) := by decide +kernel
theorem dX5_readMore_54 : decode cX5_readMore 54 = .ok (.getfield 103, 3) := by decide +kernel
theorem dX5_readMore_57 : decode cX5_readMore 57 = .ok (.iconst 1, 1) := by decide +kernel
theorem dX5_readMore_58 : decode cX5_readMore 58 = .ok (.iadd, 1) := by decide +kernel
theorem dX5_readMore_59 : decode cX5_readMore 59 = .ok (.putfield 103, 3) := by decide +kernel
theorem dX5_readMore_62 : decode cX5_readMore 62 = .ok (.goto 44, 3) := by decide +kernel
theorem dX5_readMore_65 : decode cX5_readMore 65 = .ok (.iload_n 1, 1) := by decide +kernel
theorem dX5_readMore_66 : decode cX5_readMore 66 = .ok (.iconst 4, 1) := by decide +kernel
theorem dX5_readMore_67 : decode cX5_readMore 67 = .ok (.if_icmp .ne 10, 3) := by decide +kernel
theorem dX5_readMore_70 : decode cX5_readMore 70 = .ok (.aload_n 0, 1) := by decide +kernel
theorem dX5_readMore_71 : decode cX5_readMore 71 = .ok (.invokevirtual 106, 3) := by decide +kernel
theorem dX5_readMore_74 : decode cX5_readMore 74 = .ok (.goto 32, 3) := by decide +kernel
theorem dX5_readMore_77 : decode cX5_readMore 77 = .ok (.iload_n 1, 1) := by decide +kernel
theorem dX5_readMore_78 : decode cX5_readMore 78 = .ok (.iconst 5, 1) := by decide +kernel
theorem dX5_readMore_79 : decode cX5_readMore 79 = .ok (.if_icmp .ne 10, 3) := by decide +kernel
theorem dX5_readMore_82 : decode cX5_readMore 82 = .ok (.aload_n 0, 1) := by decide +kernel
theorem dX5_readMore_83 : decode cX5_readMore 83 = .ok (.invokevirtual 109, 3) := by decide +kernel
theorem dX5_readMore_86 : decode cX5_readMore 86 = .ok (.goto 20, 3) := by decide +kernel
theorem dX5_readMore_89 : decode cX5_readMore 89 = .ok (.aload_n 0, 1) := by decide +kernel
theorem dX5_readMore_90 : decode cX5_readMore 90 = .ok (.getfield 13, 3) := by decide +kernel
theorem dX5_readMore_93 : decode cX5_readMore 93 = .ok (.bipush 15, 2) := by decide +kernel
theorem dX5_readMore_95 : decode cX5_readMore 95 = .ok (.aload_n 0, 1) := by decide +kernel
theorem dX5_readMore_96 : decode cX5_readMore 96 = .ok (.iconst 1, 1) := by decide +kernel
theorem dX5_readMore_97 : decode cX5_readMore 97 = .ok (.bipush 99, 2) := by decide +kernel
theorem dX5_readMore_99 : decode cX5_readMore 99 = .ok (.invokevirtual 96, 3) := by decide +kernel
theorem dX5_readMore_102 : decode cX5_readMore 102 = .ok (.bipush 25, 2) := by decide +kernel
theorem dX5_readMore_104 : decode cX5_readMore 104 = .ok (.isub, 1) := by decide +kernel
theorem dX5_readMore_105 : decode cX5_readMore 105 = .ok (.iastore, 1) := by decide +kernel
theorem dX5_readMore_106 : decode cX5_readMore 106 = .ok (.return_, 1) := by decide +kernel
theorem dX5_readLine_0 : decode cX5_readLine 0 = .ok (.aload_n 0, 1) := by decide +kernel
theorem dX5_readLine_1 : decode cX5_readLine 1 = .ok (.invokevirtual 112, 3) := by decide +kernel
theorem dX5_readLine_4 : decode cX5_readLine 4 = .ok (.istore_n 1, 1) := by decide +kernel
theorem dX5_readLine_5 : decode cX5_readLine 5 = .ok (.iload_n 1, 1) := by decide +kernel
theorem dX5_readLine_6 : decode cX5_readLine 6 = .ok (.i2l, 1) := by decide +kernel
theorem dX5_readLine_7 : decode cX5_readLine 7 = .ok (.lconst 0, 1) := by decide +kernel
theorem dX5_readLine_8 : decode cX5_readLine 8 = .ok (.ldc2_w 116, 3) := by decide +kernel
theorem dX5_readLine_11 : decode cX5_readLine 11 = .ok (.invokestatic 46, 3) := by decide +kernel
theorem dX5_readLine_14 : decode cX5_readLine 14 = .ok (.ifCond .ne 9, 3) := by decide +kernel
theorem dX5_readLine_17 : decode cX5_readLine 17 = .ok (.aload_n 0, 1) := by decide +kernel
theorem dX5_readLine_18 : decode cX5_readLine 18 = .ok (.iconst 2, 1) := by decide +kernel
theorem dX5_readLine_19 : decode cX5_readLine 19 = .ok (.invokevirtual 84, 3) := by decide +kernel
theorem dX5_readLine_22 : decode cX5_readLine 22 = .ok (.return_, 1) := by decide +kernel
theorem dX5_readLine_23 : decode cX5_readLine 23 = .ok (.iload_n 1, 1) := by decide +kernel
theorem dX5_readLine_24 : decode cX5_readLine 24 = .ok (.iconst 3, 1) := by decide +kernel
theorem dX5_readLine_25 : decode cX5_readLine 25 = .ok (.if_icmp .gt 11, 3) := by decide +kernel
theorem dX5_readLine_28 : decode cX5_readLine 28 = .ok (.aload_n 0, 1) := by decide +kernel
theorem dX5_readLine_29 : decode cX5_readLine 29 = .ok (.getfield 103, 3) := by decide +kernel
theorem dX5_readLine_32 : decode cX5_readLine 32 = .ok (.iconst 5, 1) := by decide +kernel
theorem dX5_readLine_33 : decode cX5_readLine 33 = .ok (.if_icmp .eq 20, 3) := by decide +kernel
theorem dX5_readLine_36 : decode cX5_readLine 36 = .ok (.iload_n 1, 1) := by decide +kernel
theorem dX5_readLine_37 : decode cX5_readLine 37 = .ok (.iconst 4, 1) := by decide +kernel
theorem dX5_readLine_38 : decode cX5_readLine 38 = .ok (.if_icmp .ne 20, 3) := by decide +kernel
theorem dX5_readLine_41 : decode cX5_readLine 41 = .ok (.aload_n 0, 1) := by decide +kernel
theorem dX5_readLine_42 : decode cX5_readLine 42 = .ok (.getfield 13, 3) := by decide +kernel
theorem dX5_readLine_45 : decode cX5_readLine 45 = .ok (.bipush 52, 2) := by decide +kernel
theorem dX5_readLine_47 : decode cX5_readLine 47 = .ok (.iaload, 1) := by decide +kernel
theorem dX5_readLine_48 : decode cX5_readLine 48 = .ok (.bipush 8, 2) := by decide +kernel
theorem dX5_readLine_50 : decode cX5_readLine 50 = .ok (.if_icmp .ne 8, 3) := by decide +kernel
theorem dX5_readLine_53 : decode cX5_readLine 53 = .ok (.aload_n 0, 1) := by decide +kernel
theorem dX5_readLine_54 : decode cX5_readLine 54 = .ok (.iconst 5, 1) := by decide +kernel
theorem dX5_readLine_55 : decode cX5_readLine 55 = .ok (.invokevirtual 84, 3) := by decide +kernel
theorem dX5_readLine_58 : decode cX5_readLine 58 = .ok (.iload_n 1, 1) := by decide +kernel
theorem dX5_readLine_59 : decode cX5_readLine 59 = .ok (.bipush 6, 2) := by decide +kernel
theorem dX5_readLine_61 : decode cX5_readLine 61 = .ok (.if_icmp .ne 15, 3) := by decide +kernel
theorem dX5_readLine_64 : decode cX5_readLine 64 = .ok (.aload_n 0, 1) := by decide +kernel
theorem dX5_readLine_65 : decode cX5_readLine 65 = .ok (.getfield 118, 3) := by decide +kernel
theorem dX5_readLine_68 : decode cX5_readLine 68 = .ok (.ifCond .eq 8, 3) := by decide +kernel
theorem dX5_readLine_71 : decode cX5_readLine 71 = .ok (.aload_n 0, 1) := by decide +kernel
theorem dX5_readLine_72 : decode cX5_readLine 72 = .ok (.iconst 4, 1) := by decide +kernel
theorem dX5_readLine_73 : decode cX5_readLine 73 = .ok (.invokevirtual 84, 3) := by decide +kernel
theorem dX5_readLine_76 : decode cX5_readLine 76 = .ok (.aload_n 0, 1) := by decide +kernel
theorem dX5_readLine_77 : decode cX5_readLine 77 = .ok (.aload_n 0, 1) := by decide +kernel
theorem dX5_readLine_78 : decode cX5_readLine 78 = .ok (.getfield 118, 3) := by decide +kernel
theorem dX5_readLine_81 : decode cX5_readLine 81 = .ok (.ifCond .ne 9, 3) := by decide +kernel
theorem dX5_readLine_84 : decode cX5_readLine 84 = .ok (.iload_n 1, 1) := by decide +kernel
theorem dX5_readLine_85 : decode cX5_readLine 85 = .ok (.bipush 6, 2) := by decide +kernel
theorem dX5_readLine_87 : decode cX5_readLine 87 = .ok (.if_icmp .ne 7, 3) := by decide +kernel
theorem dX5_readLine_90 : decode cX5_readLine 90 = .ok (.iconst 1, 1) := by decide +kernel
theorem dX5_readLine_91 : decode cX5_readLine 91 = .ok (.goto 4, 3) := by decide +kernel
theorem dX5_readLine_94 : decode cX5_readLine 94 = .ok (.iconst 0, 1) := by decide +kernel
theorem dX5_readLine_95 : decode cX5_readLine 95 = .ok (.putfield 118, 3) := by decide +kernel
theorem dX5_readLine_98 : decode cX5_readLine 98 = .ok (.aload_n 0, 1) := by decide +kernel
theorem dX5_readLine_99 : decode cX5_readLine 99 = .ok (.invokevirtual 88, 3) := by decide +kernel
theorem dX5_readLine_102 : decode cX5_readLine 102 = .ok (.aload_n 0, 1) := by decide +kernel
theorem dX5_readLine_103 : decode cX5_readLine 103 = .ok (.getfield 54, 3) := by decide +kernel
theorem dX5_readLine_106 : decode cX5_readLine 106 = .ok (.ifCond .le 4, 3) := by decide +kernel
theorem dX5_readLine_109 : decode cX5_readLine 109 = .ok (.return_, 1) := by decide +kernel
theorem dX5_readLine_110 : decode cX5_readLine 110 = .ok (.aload_n 0, 1) := by decide +kernel
theorem dX5_readLine_111 : decode cX5_readLine 111 = .ok (.iload_n 1, 1) := by decide +kernel
theorem dX5_readLine_112 : decode cX5_readLine 112 = .ok (.invokevirtual 122, 3) := by decide +kernel
theorem dX5_readLine_115 : decode cX5_readLine 115 = .ok (.aload_n 0, 1) := by decide +kernel
theorem dX5_readLine_116 : decode cX5_readLine 116 = .ok (.getfield 54, 3) := by decide +kernel
theorem dX5_readLine_119 : decode cX5_readLine 119 = .ok (.ifCond .ne 16, 3) := by decide +kernel
theorem dX5_readLine_122 : decode cX5_readLine 122 = .ok (.aload_n 0, 1) := by decide +kernel
theorem dX5_readLine_123 : decode cX5_readLine 123 = .ok (.getfield 63, 3) := by decide +kernel
theorem dX5_readLine_126 : decode cX5_readLine 126 = .ok (.iconst 3, 1) := by decide +kernel
theorem dX5_readLine_127 : decode cX5_readLine 127 = .ok (.if_icmp .eq 8, 3) := by decide +kernel
theorem dX5_readLine_130 : decode cX5_readLine 130 = .ok (.aload_n 0, 1) := by decide +kernel
theorem dX5_readLine_131 : decode cX5_readLine 131 = .ok (.iconst 2, 1) := by decide +kernel
theorem dX5_readLine_132 : decode cX5_readLine 132 = .ok (.invokevirtual 84, 3) := by decide +kernel
theorem dX5_readLine_135 : decode cX5_readLine 135 = .ok (.aload_n 0, 1) := by decide +kernel
theorem dX5_readLine_136 : decode cX5_readLine 136 = .ok (.invokevirtual 88, 3) := by decide +kernel
theorem dX5_readLine_139 : decode cX5_readLine 139 = .ok (.return_, 1) := by decide +kernel
theorem dX5_text_0 : decode cX5_text 0 = .ok (.aload_n 0, 1) := by decide +kernel
theorem dX5_text_1 : decode cX5_text 1 = .ok (.iconst 0, 1) := by decide +kernel
theorem dX5_text_2 : decode cX5_text 2 = .ok (.putfield 54, 3) := by decide +kernel
theorem dX5_text_5 : decode cX5_text 5 = .ok (.aload_n 0, 1) := by decide +kernel
theorem dX5_text_6 : decode cX5_text 6 = .ok (.iconst 0, 1) := by decide +kernel
theorem dX5_text_7 : decode cX5_text 7 = .ok (.putfield 66, 3) := by decide +kernel
theorem dX5_text_10 : decode cX5_text 10 = .ok (.aload_n 0, 1) := by decide +kernel
theorem dX5_text_11 : decode cX5_text 11 = .ok (.iconst 0, 1) := by decide +kernel
theorem dX5_text_12 : decode cX5_text 12 = .ok (.putfield 103, 3) := by decide +kernel
theorem dX5_text_15 : decode cX5_text 15 = .ok (.aload_n 0, 1) := by decide +kernel
theorem dX5_text_16 : decode cX5_text 16 = .ok (.iconst 0, 1) := by decide +kernel
theorem dX5_text_17 : decode cX5_text 17 = .ok (.putfield 93, 3) := by decide +kernel
theorem dX5_text_20 : decode cX5_text 20 = .ok (.aload_n 0, 1) := by decide +kernel
theorem dX5_text_21 : decode cX5_text 21 = .ok (.iconst 0, 1) := by decide +kernel
theorem dX5_text_22 : decode cX5_text 22 = .ok (.putfield 118, 3) := by decide +kernel
theorem dX5_text_25 : decode cX5_text 25 = .ok (.aload_n 0, 1) := by decide +kernel
theorem dX5_text_26 : decode cX5_text 26 = .ok (.iconst (-1), 1) := by decide +kernel
theorem dX5_text_27 : decode cX5_text 27 = .ok (.putfield 100, 3) := by decide +kernel
theorem dX5_text_30 : decode cX5_text 30 = .ok (.iconst 0, 1) := by decide +kernel
theorem dX5_text_31 : decode cX5_text 31 = .ok (.istore_n 1, 1) := by decide +kernel
theorem dX5_text_32 : decode cX5_text 32 = .ok (.iconst 0, 1) := by decide +kernel
theorem dX5_text_33 : decode cX5_text 33 = .ok (.istore_n 2, 1) := by decide +kernel
theorem dX5_text_34 : decode cX5_text 34 = .ok (.iload_n 2, 1) := by decide +kernel
theorem dX5_text_35 : decode cX5_text 35 = .ok (.bipush 55, 2) := by decide +kernel
theorem dX5_text_37 : decode cX5_text 37 = .ok (.if_icmp .ge 16, 3) := by decide +kernel
theorem dX5_text_40 : decode cX5_text 40 = .ok (.aload_n 0, 1) := by decide +kernel
theorem dX5_text_41 : decode cX5_text 41 = .ok (.getfield 13, 3) := by decide +kernel
theorem dX5_text_44 : decode cX5_text 44 = .ok (.iload_n 2, 1) := by decide +kernel
theorem dX5_text_45 : decode cX5_text 45 = .ok (.iconst 0, 1) := by decide +kernel
theorem dX5_text_46 : decode cX5_text 46 = .ok (.iastore, 1) := by decide +kernel
theorem dX5_text_47 : decode cX5_text 47 = .ok (.iinc 2 1, 3) := by decide +kernel
theorem dX5_text_50 : decode cX5_text 50 = .ok (.goto (-16), 3) := by decide +kernel
theorem dX5_text_53 : decode cX5_text 53 = .ok (.aload_n 0, 1) := by decide +kernel
theorem dX5_text_54 : decode cX5_text 54 = .ok (.invokevirtual 88, 3) := by decide +kernel
theorem dX5_text_57 : decode cX5_text 57 = .ok (.aload_n 0, 1) := by decide +kernel
theorem dX5_text_58 : decode cX5_text 58 = .ok (.getfield 54, 3) := by decide +kernel
theorem dX5_text_61 : decode cX5_text 61 = .ok (.ifCond .ne 20, 3) := by decide +kernel
theorem dX5_text_64 : decode cX5_text 64 = .ok (.aload_n 0, 1) := by decide +kernel
theorem dX5_text_65 : decode cX5_text 65 = .ok (.getfield 63, 3) := by decide +kernel
theorem dX5_text_68 : decode cX5_text 68 = .ok (.ifCond .eq 13, 3) := by decide +kernel
theorem dX5_text_71 : decode cX5_text 71 = .ok (.aload_n 0, 1) := by decide +kernel
theorem dX5_text_72 : decode cX5_text 72 = .ok (.invokevirtual 125, 3) := by decide +kernel
theorem dX5_text_75 : decode cX5_text 75 = .ok (.iinc 1 1, 3) := by decide +kernel
theorem dX5_text_78 : decode cX5_text 78 = .ok (.goto (-21), 3) := by decide +kernel
theorem dX5_text_81 : decode cX5_text 81 = .ok (.aload_n 0, 1) := by decide +kernel
theorem dX5_text_82 : decode cX5_text 82 = .ok (.getfield 54, 3) := by decide +kernel
theorem dX5_text_85 : decode cX5_text 85 = .ok (.ifCond .ne 20, 3) := by decide +kernel
theorem dX5_text_88 : decode cX5_text 88 = .ok (.aload_n 0, 1) := by decide +kernel
theorem dX5_text_89 : decode cX5_text 89 = .ok (.getfield 100, 3) := by decide +kernel
theorem dX5_text_92 : decode cX5_text 92 = .ok (.aload_n 0, 1) := by decide +kernel
theorem dX5_text_93 : decode cX5_text 93 = .ok (.getfield 103, 3) := by decide +kernel
theorem dX5_text_96 : decode cX5_text 96 = .ok (.if_icmp .lt 9, 3) := by decide +kernel
theorem dX5_text_99 : decode cX5_text 99 = .ok (.aload_n 0, 1) := by decide +kernel
theorem dX5_text_100 : decode cX5_text 100 = .ok (.bipush 6, 2) := by decide +kernel
theorem dX5_text_102 : decode cX5_text 102 = .ok (.invokevirtual 84, 3) := by decide +kernel
theorem dX5_text_105 : decode cX5_text 105 = .ok (.aload_n 0, 1) := by decide +kernel
theorem dX5_text_106 : decode cX5_text 106 = .ok (.iconst 0, 1) := by decide +kernel
theorem dX5_text_107 : decode cX5_text 107 = .ok (.putfield 50, 3) := by decide +kernel
theorem dX5_text_110 : decode cX5_text 110 = .ok (.aload_n 0, 1) := by decide +kernel
theorem dX5_text_111 : decode cX5_text 111 = .ok (.aload_n 0, 1) := by decide +kernel
theorem dX5_text_112 : decode cX5_text 112 = .ok (.getfield 54, 3) := by decide +kernel
theorem dX5_text_115 : decode cX5_text 115 = .ok (.putfield 128, 3) := by decide +kernel
theorem dX5_text_118 : decode cX5_text 118 = .ok (.aload_n 0, 1) := by decide +kernel
theorem dX5_text_119 : decode cX5_text 119 = .ok (.getfield 54, 3) := by decide +kernel
theorem dX5_text_122 : decode cX5_text 122 = .ok (.ifCond .le 11, 3) := by decide +kernel
theorem dX5_text_125 : decode cX5_text 125 = .ok (.bipush (-10), 2) := by decide +kernel
theorem dX5_text_127 : decode cX5_text 127 = .ok (.aload_n 0, 1) := by decide +kernel
theorem dX5_text_128 : decode cX5_text 128 = .ok (.getfield 60, 3) := by decide +kernel
theorem dX5_text_131 : decode cX5_text 131 = .ok (.isub, 1) := by decide +kernel
theorem dX5_text_132 : decode cX5_text 132 = .ok (.ireturn, 1) := by decide +kernel
theorem dX5_text_133 : decode cX5_text 133 = .ok (.iconst 0, 1) := by decide +kernel
theorem dX5_text_134 : decode cX5_text 134 = .ok (.istore_n 2, 1) := by decide +kernel
theorem dX5_text_135 : decode cX5_text 135 = .ok (.iload_n 2, 1) := by decide +kernel
theorem dX5_text_136 : decode cX5_text 136 = .ok (.bipush 55, 2) := by decide +kernel
theorem dX5_text_138 : decode cX5_text 138 = .ok (.if_icmp .ge 21, 3) := by decide +kernel
theorem dX5_text_141 : decode cX5_text 141 = .ok (.aload_n 0, 1) := by decide +kernel
theorem dX5_text_142 : decode cX5_text 142 = .ok (.getfield 7, 3) := by decide +kernel
theorem dX5_text_145 : decode cX5_text 145 = .ok (.iload_n 2, 1) := by decide +kernel
theorem dX5_text_146 : decode cX5_text 146 = .ok (.aload_n 0, 1) := by decide +kernel
theorem dX5_text_147 : decode cX5_text 147 = .ok (.getfield 13, 3) := by decide +kernel
theorem dX5_text_150 : decode cX5_text 150 = .ok (.iload_n 2, 1) := by decide +kernel
theorem dX5_text_151 : decode cX5_text 151 = .ok (.iaload, 1) := by decide +kernel
theorem dX5_text_152 : decode cX5_text 152 = .ok (.iastore, 1) := by decide +kernel
theorem dX5_text_153 : decode cX5_text 153 = .ok (.iinc 2 1, 3) := by decide +kernel
theorem dX5_text_156 : decode cX5_text 156 = .ok (.goto (-21), 3) := by decide +kernel
theorem dX5_text_159 : decode cX5_text 159 = .ok (.aload_n 0, 1) := by decide +kernel
theorem dX5_text_160 : decode cX5_text 160 = .ok (.aload_n 0, 1) := by decide +kernel
theorem dX5_text_161 : decode cX5_text 161 = .ok (.getfield 103, 3) := by decide +kernel
theorem dX5_text_164 : decode cX5_text 164 = .ok (.putfield 131, 3) := by decide +kernel
theorem dX5_text_167 : decode cX5_text 167 = .ok (.aload_n 0, 1) := by decide +kernel
theorem dX5_text_168 : decode cX5_text 168 = .ok (.iconst 0, 1) := by decide +kernel
theorem dX5_text_169 : decode cX5_text 169 = .ok (.putfield 134, 3) := by decide +kernel
theorem dX5_text_172 : decode cX5_text 172 = .ok (.aload_n 0, 1) := by decide +kernel
theorem dX5_text_173 : decode cX5_text 173 = .ok (.getfield 31, 3) := by decide +kernel
theorem dX5_text_176 : decode cX5_text 176 = .ok (.iconst 0, 1) := by decide +kernel
theorem dX5_text_177 : decode cX5_text 177 = .ok (.iconst 0, 1) := by decide +kernel
theorem dX5_text_178 : decode cX5_text 178 = .ok (.bastore, 1) := by decide +kernel
theorem dX5_text_179 : decode cX5_text 179 = .ok (.aload_n 0, 1) := by decide +kernel
theorem dX5_text_180 : decode cX5_text 180 = .ok (.getfield 31, 3) := by decide +kernel
theorem dX5_text_183 : decode cX5_text 183 = .ok (.iconst 1, 1) := by decide +kernel
theorem dX5_text_184 : decode cX5_text 184 = .ok (.iconst 0, 1) := by decide +kernel
theorem dX5_text_185 : decode cX5_text 185 = .ok (.bastore, 1) := by decide +kernel
theorem dX5_text_186 : decode cX5_text 186 = .ok (.iload_n 1, 1) := by decide +kernel
theorem dX5_text_187 : decode cX5_text 187 = .ok (.ireturn, 1) := by decide +kernel
theorem dX5_fault_0 : decode cX5_fault 0 = .ok (.aload_n 0, 1) := by decide +kernel
theorem dX5_fault_1 : decode cX5_fault 1 = .ok (.getfield 128, 3) := by decide +kernel
theorem dX5_fault_4 : decode cX5_fault 4 = .ok (.ireturn, 1) := by decide +kernel
theorem dX5_isRider_0 : decode cX5_isRider 0 = .ok (.iload_n 1, 1) := by decide +kernel
theorem dX5_isRider_1 : decode cX5_isRider 1 = .ok (.i2l, 1) := by decide +kernel
theorem dX5_isRider_2 : decode cX5_isRider 2 = .ok (.lconst 0, 1) := by decide +kernel
theorem dX5_isRider_3 : decode cX5_isRider 3 = .ok (.aload_n 0, 1) := by decide +kernel
theorem dX5_isRider_4 : decode cX5_isRider 4 = .ok (.getfield 131, 3) := by decide +kernel
theorem dX5_isRider_7 : decode cX5_isRider 7 = .ok (.iconst 1, 1) := by decide +kernel
theorem dX5_isRider_8 : decode cX5_isRider 8 = .ok (.isub, 1) := by decide +kernel
theorem dX5_isRider_9 : decode cX5_isRider 9 = .ok (.i2l, 1) := by decide +kernel
theorem dX5_isRider_10 : decode cX5_isRider 10 = .ok (.invokestatic 46, 3) := by decide +kernel
theorem dX5_isRider_13 : decode cX5_isRider 13 = .ok (.ireturn, 1) := by decide +kernel
theorem dX5_isReporter_0 : decode cX5_isReporter 0 = .ok (.iload_n 0, 1) := by decide +kernel
theorem dX5_isReporter_1 : decode cX5_isReporter 1 = .ok (.i2l, 1) := by decide +kernel
theorem dX5_isReporter_2 : decode cX5_isReporter 2 = .ok (.lconst 0, 1) := by decide +kernel
theorem dX5_isReporter_3 : decode cX5_isReporter 3 = .ok (.ldc2_w 91, 3) := by decide +kernel
theorem dX5_isReporter_6 : decode cX5_isReporter 6 = .ok (.invokestatic 46, 3) := by decide +kernel
theorem dX5_isReporter_9 : decode cX5_isReporter 9 = .ok (.ireturn, 1) := by decide +kernel
theorem dX5_isEnd_0 : decode cX5_isEnd 0 = .ok (.iload_n 0, 1) := by decide +kernel
theorem dX5_isEnd_1 : decode cX5_isEnd 1 = .ok (.i2l, 1) := by decide +kernel
theorem dX5_isEnd_2 : decode cX5_isEnd 2 = .ok (.lconst 0, 1) := by decide +kernel
theorem dX5_isEnd_3 : decode cX5_isEnd 3 = .ok (.ldc2_w 91, 3) := by decide +kernel
theorem dX5_isEnd_6 : decode cX5_isEnd 6 = .ok (.invokestatic 46, 3) := by decide +kernel
theorem dX5_isEnd_9 : decode cX5_isEnd 9 = .ok (.ireturn, 1) := by decide +kernel
theorem dX5_isDay_0 : decode cX5_isDay 0 = .ok (.iload_n 0, 1) := by decide +kernel
theorem dX5_isDay_1 : decode cX5_isDay 1 = .ok (.i2l, 1) := by decide +kernel
theorem dX5_isDay_2 : decode cX5_isDay 2 = .ok (.lconst 0, 1) := by decide +kernel
theorem dX5_isDay_3 : decode cX5_isDay 3 = .ok (.ldc2_w 137, 3) := by decide +kernel
theorem dX5_isDay_6 : decode cX5_isDay 6 = .ok (.invokestatic 46, 3) := by decide +kernel
theorem dX5_isDay_9 : decode cX5_isDay 9 = .ok (.ireturn, 1) := by decide +kernel
theorem dX5_isReport_0 : decode cX5_isReport 0 = .ok (.iload_n 1, 1) := by decide +kernel
theorem dX5_isReport_1 : decode cX5_isReport 1 = .ok (.i2l, 1) := by decide +kernel
theorem dX5_isReport_2 : decode cX5_isReport 2 = .ok (.lconst 0, 1) := by decide +kernel
theorem dX5_isReport_3 : decode cX5_isReport 3 = .ok (.aload_n 0, 1) := by decide +kernel
theorem dX5_isReport_4 : decode cX5_isReport 4 = .ok (.getfield 7, 3) := by decide +kernel
theorem dX5_isReport_7 : decode cX5_isReport 7 = .ok (.bipush 52, 2) := by decide +kernel
theorem dX5_isReport_9 : decode cX5_isReport 9 = .ok (.iaload, 1) := by decide +kernel
theorem dX5_isReport_10 : decode cX5_isReport 10 = .ok (.iconst 1, 1) := by decide +kernel
theorem dX5_isReport_11 : decode cX5_isReport 11 = .ok (.isub, 1) := by decide +kernel
theorem dX5_isReport_12 : decode cX5_isReport 12 = .ok (.i2l, 1) := by decide +kernel
theorem dX5_isReport_13 : decode cX5_isReport 13 = .ok (.invokestatic 46, 3) := by decide +kernel
theorem dX5_isReport_16 : decode cX5_isReport 16 = .ok (.ireturn, 1) := by decide +kernel
theorem dX5_legsOf_0 : decode cX5_legsOf 0 = .ok (.iload_n 0, 1) := by decide +kernel
theorem dX5_legsOf_1 : decode cX5_legsOf 1 = .ok (.iconst 1, 1) := by decide +kernel
theorem dX5_legsOf_2 : decode cX5_legsOf 2 = .ok (.iand, 1) := by decide +kernel
theorem dX5_legsOf_3 : decode cX5_legsOf 3 = .ok (.iload_n 0, 1) := by decide +kernel
theorem dX5_legsOf_4 : decode cX5_legsOf 4 = .ok (.iconst 1, 1) := by decide +kernel
theorem dX5_legsOf_5 : decode cX5_legsOf 5 = .ok (.ishr, 1) := by decide +kernel
theorem dX5_legsOf_6 : decode cX5_legsOf 6 = .ok (.iconst 1, 1) := by decide +kernel
theorem dX5_legsOf_7 : decode cX5_legsOf 7 = .ok (.iand, 1) := by decide +kernel
theorem dX5_legsOf_8 : decode cX5_legsOf 8 = .ok (.iadd, 1) := by decide +kernel
theorem dX5_legsOf_9 : decode cX5_legsOf 9 = .ok (.iload_n 0, 1) := by decide +kernel
theorem dX5_legsOf_10 : decode cX5_legsOf 10 = .ok (.iconst 2, 1) := by decide +kernel
theorem dX5_legsOf_11 : decode cX5_legsOf 11 = .ok (.ishr, 1) := by decide +kernel
theorem dX5_legsOf_12 : decode cX5_legsOf 12 = .ok (.iconst 1, 1) := by decide +kernel
theorem dX5_legsOf_13 : decode cX5_legsOf 13 = .ok (.iand, 1) := by decide +kernel
theorem dX5_legsOf_14 : decode cX5_legsOf 14 = .ok (.iadd, 1) := by decide +kernel
theorem dX5_legsOf_15 : decode cX5_legsOf 15 = .ok (.iload_n 0, 1) := by decide +kernel
theorem dX5_legsOf_16 : decode cX5_legsOf 16 = .ok (.iconst 3, 1) := by decide +kernel
theorem dX5_legsOf_17 : decode cX5_legsOf 17 = .ok (.ishr, 1) := by decide +kernel
theorem dX5_legsOf_18 : decode cX5_legsOf 18 = .ok (.iconst 1, 1) := by decide +kernel
theorem dX5_legsOf_19 : decode cX5_legsOf 19 = .ok (.iand, 1) := by decide +kernel
theorem dX5_legsOf_20 : decode cX5_legsOf 20 = .ok (.iadd, 1) := by decide +kernel
theorem dX5_legsOf_21 : decode cX5_legsOf 21 = .ok (.ireturn, 1) := by decide +kernel
theorem dX5_readsOf_0 : decode cX5_readsOf 0 = .ok (.iload_n 1, 1) := by decide +kernel
theorem dX5_readsOf_1 : decode cX5_readsOf 1 = .ok (.invokestatic 139, 3) := by decide +kernel
theorem dX5_readsOf_4 : decode cX5_readsOf 4 = .ok (.iconst 3, 1) := by decide +kernel
theorem dX5_readsOf_5 : decode cX5_readsOf 5 = .ok (.if_icmp .ge 10, 3) := by decide +kernel
theorem dX5_readsOf_8 : decode cX5_readsOf 8 = .ok (.iload_n 1, 1) := by decide +kernel
theorem dX5_readsOf_9 : decode cX5_readsOf 9 = .ok (.invokestatic 139, 3) := by decide +kernel
theorem dX5_readsOf_12 : decode cX5_readsOf 12 = .ok (.goto 4, 3) := by decide +kernel
theorem dX5_readsOf_15 : decode cX5_readsOf 15 = .ok (.iconst 3, 1) := by decide +kernel
theorem dX5_readsOf_16 : decode cX5_readsOf 16 = .ok (.istore_n 2, 1) := by decide +kernel
theorem dX5_readsOf_17 : decode cX5_readsOf 17 = .ok (.iload_n 2, 1) := by decide +kernel
theorem dX5_readsOf_18 : decode cX5_readsOf 18 = .ok (.ifCond .le 9, 3) := by decide +kernel
theorem dX5_readsOf_21 : decode cX5_readsOf 21 = .ok (.iload_n 2, 1) := by decide +kernel
theorem dX5_readsOf_22 : decode cX5_readsOf 22 = .ok (.iconst 1, 1) := by decide +kernel
theorem dX5_readsOf_23 : decode cX5_readsOf 23 = .ok (.isub, 1) := by decide +kernel
theorem dX5_readsOf_24 : decode cX5_readsOf 24 = .ok (.goto 4, 3) := by decide +kernel
theorem dX5_readsOf_27 : decode cX5_readsOf 27 = .ok (.iconst 0, 1) := by decide +kernel
theorem dX5_readsOf_28 : decode cX5_readsOf 28 = .ok (.istore_n 3, 1) := by decide +kernel
theorem dX5_readsOf_29 : decode cX5_readsOf 29 = .ok (.iload_n 0, 1) := by decide +kernel
theorem dX5_readsOf_30 : decode cX5_readsOf 30 = .ok (.ifCond .ne 7, 3) := by decide +kernel
theorem dX5_readsOf_33 : decode cX5_readsOf 33 = .ok (.iload_n 2, 1) := by decide +kernel
theorem dX5_readsOf_34 : decode cX5_readsOf 34 = .ok (.goto 28, 3) := by decide +kernel
theorem dX5_readsOf_37 : decode cX5_readsOf 37 = .ok (.iload_n 0, 1) := by decide +kernel
theorem dX5_readsOf_38 : decode cX5_readsOf 38 = .ok (.iconst 1, 1) := by decide +kernel
theorem dX5_readsOf_39 : decode cX5_readsOf 39 = .ok (.if_icmp .ne 7, 3) := by decide +kernel
theorem dX5_readsOf_42 : decode cX5_readsOf 42 = .ok (.iload_n 3, 1) := by decide +kernel
theorem dX5_readsOf_43 : decode cX5_readsOf 43 = .ok (.goto 19, 3) := by decide +kernel
theorem dX5_readsOf_46 : decode cX5_readsOf 46 = .ok (.iload_n 0, 1) := by decide +kernel
theorem dX5_readsOf_47 : decode cX5_readsOf 47 = .ok (.iconst 2, 1) := by decide +kernel
theorem dX5_readsOf_48 : decode cX5_readsOf 48 = .ok (.if_icmp .ne 9, 3) := by decide +kernel
theorem dX5_readsOf_51 : decode cX5_readsOf 51 = .ok (.iconst 3, 1) := by decide +kernel
theorem dX5_readsOf_52 : decode cX5_readsOf 52 = .ok (.iload_n 2, 1) := by decide +kernel
theorem dX5_readsOf_53 : decode cX5_readsOf 53 = .ok (.isub, 1) := by decide +kernel
theorem dX5_readsOf_54 : decode cX5_readsOf 54 = .ok (.goto 8, 3) := by decide +kernel
theorem dX5_readsOf_57 : decode cX5_readsOf 57 = .ok (.iload_n 3, 1) := by decide +kernel
theorem dX5_readsOf_58 : decode cX5_readsOf 58 = .ok (.iconst 2, 1) := by decide +kernel
theorem dX5_readsOf_59 : decode cX5_readsOf 59 = .ok (.iadd, 1) := by decide +kernel
theorem dX5_readsOf_60 : decode cX5_readsOf 60 = .ok (.iconst 4, 1) := by decide +kernel
theorem dX5_readsOf_61 : decode cX5_readsOf 61 = .ok (.irem, 1) := by decide +kernel
theorem dX5_readsOf_62 : decode cX5_readsOf 62 = .ok (.ireturn, 1) := by decide +kernel
theorem dX5_readsOn_0 : decode cX5_readsOn 0 = .ok (.aload_n 0, 1) := by decide +kernel
theorem dX5_readsOn_1 : decode cX5_readsOn 1 = .ok (.getfield 7, 3) := by decide +kernel
theorem dX5_readsOn_4 : decode cX5_readsOn 4 = .ok (.iload_n 1, 1) := by decide +kernel
theorem dX5_readsOn_5 : decode cX5_readsOn 5 = .ok (.iload_n 2, 1) := by decide +kernel
theorem dX5_readsOn_6 : decode cX5_readsOn 6 = .ok (.iadd, 1) := by decide +kernel
theorem dX5_readsOn_7 : decode cX5_readsOn 7 = .ok (.iaload, 1) := by decide +kernel
theorem dX5_readsOn_8 : decode cX5_readsOn 8 = .ok (.aload_n 0, 1) := by decide +kernel
theorem dX5_readsOn_9 : decode cX5_readsOn 9 = .ok (.getfield 7, 3) := by decide +kernel
theorem dX5_readsOn_12 : decode cX5_readsOn 12 = .ok (.iload_n 1, 1) := by decide +kernel
theorem dX5_readsOn_13 : decode cX5_readsOn 13 = .ok (.iconst 5, 1) := by decide +kernel
theorem dX5_readsOn_14 : decode cX5_readsOn 14 = .ok (.iadd, 1) := by decide +kernel
theorem dX5_readsOn_15 : decode cX5_readsOn 15 = .ok (.iload_n 2, 1) := by decide +kernel
theorem dX5_readsOn_16 : decode cX5_readsOn 16 = .ok (.iadd, 1) := by decide +kernel
theorem dX5_readsOn_17 : decode cX5_readsOn 17 = .ok (.iaload, 1) := by decide +kernel
theorem dX5_readsOn_18 : decode cX5_readsOn 18 = .ok (.invokestatic 142, 3) := by decide +kernel
theorem dX5_readsOn_21 : decode cX5_readsOn 21 = .ok (.ireturn, 1) := by decide +kernel
theorem dX5_isUpright_0 : decode cX5_isUpright 0 = .ok (.aload_n 0, 1) := by decide +kernel
theorem dX5_isUpright_1 : decode cX5_isUpright 1 = .ok (.getfield 7, 3) := by decide +kernel
theorem dX5_isUpright_4 : decode cX5_isUpright 4 = .ok (.iload_n 1, 1) := by decide +kernel
theorem dX5_isUpright_5 : decode cX5_isUpright 5 = .ok (.bipush 10, 2) := by decide +kernel
theorem dX5_isUpright_7 : decode cX5_isUpright 7 = .ok (.iadd, 1) := by decide +kernel
theorem dX5_isUpright_8 : decode cX5_isUpright 8 = .ok (.iload_n 2, 1) := by decide +kernel
theorem dX5_isUpright_9 : decode cX5_isUpright 9 = .ok (.iadd, 1) := by decide +kernel
theorem dX5_isUpright_10 : decode cX5_isUpright 10 = .ok (.iaload, 1) := by decide +kernel
theorem dX5_isUpright_11 : decode cX5_isUpright 11 = .ok (.aload_n 0, 1) := by decide +kernel
theorem dX5_isUpright_12 : decode cX5_isUpright 12 = .ok (.getfield 7, 3) := by decide +kernel
theorem dX5_isUpright_15 : decode cX5_isUpright 15 = .ok (.iload_n 1, 1) := by decide +kernel
theorem dX5_isUpright_16 : decode cX5_isUpright 16 = .ok (.bipush 15, 2) := by decide +kernel
theorem dX5_isUpright_18 : decode cX5_isUpright 18 = .ok (.iadd, 1) := by decide +kernel
theorem dX5_isUpright_19 : decode cX5_isUpright 19 = .ok (.iaload, 1) := by decide +kernel
theorem dX5_isUpright_20 : decode cX5_isUpright 20 = .ok (.bipush 25, 2) := by decide +kernel
theorem dX5_isUpright_22 : decode cX5_isUpright 22 = .ok (.iadd, 1) := by decide +kernel
theorem dX5_isUpright_23 : decode cX5_isUpright 23 = .ok (.iconst 4, 1) := by decide +kernel
theorem dX5_isUpright_24 : decode cX5_isUpright 24 = .ok (.iload_n 3, 1) := by decide +kernel
theorem dX5_isUpright_25 : decode cX5_isUpright 25 = .ok (.invokestatic 139, 3) := by decide +kernel
theorem dX5_isUpright_28 : decode cX5_isUpright 28 = .ok (.isub, 1) := by decide +kernel
theorem dX5_isUpright_29 : decode cX5_isUpright 29 = .ok (.imul, 1) := by decide +kernel
theorem dX5_isUpright_30 : decode cX5_isUpright 30 = .ok (.if_icmp .gt 7, 3) := by decide +kernel
theorem dX5_isUpright_33 : decode cX5_isUpright 33 = .ok (.iconst 1, 1) := by decide +kernel
theorem dX5_isUpright_34 : decode cX5_isUpright 34 = .ok (.goto 4, 3) := by decide +kernel
theorem dX5_isUpright_37 : decode cX5_isUpright 37 = .ok (.iconst 0, 1) := by decide +kernel
theorem dX5_isUpright_38 : decode cX5_isUpright 38 = .ok (.ireturn, 1) := by decide +kernel
theorem dX5_standsOn_0 : decode cX5_standsOn 0 = .ok (.aload_n 0, 1) := by decide +kernel
theorem dX5_standsOn_1 : decode cX5_standsOn 1 = .ok (.iload_n 1, 1) := by decide +kernel
theorem dX5_standsOn_2 : decode cX5_standsOn 2 = .ok (.iload_n 2, 1) := by decide +kernel
theorem dX5_standsOn_3 : decode cX5_standsOn 3 = .ok (.aload_n 0, 1) := by decide +kernel
theorem dX5_standsOn_4 : decode cX5_standsOn 4 = .ok (.getfield 7, 3) := by decide +kernel
theorem dX5_standsOn_7 : decode cX5_standsOn 7 = .ok (.iload_n 1, 1) := by decide +kernel
theorem dX5_standsOn_8 : decode cX5_standsOn 8 = .ok (.iconst 5, 1) := by decide +kernel
theorem dX5_standsOn_9 : decode cX5_standsOn 9 = .ok (.iadd, 1) := by decide +kernel
theorem dX5_standsOn_10 : decode cX5_standsOn 10 = .ok (.iload_n 2, 1) := by decide +kernel
theorem dX5_standsOn_11 : decode cX5_standsOn 11 = .ok (.iadd, 1) := by decide +kernel
theorem dX5_standsOn_12 : decode cX5_standsOn 12 = .ok (.iaload, 1) := by decide +kernel
theorem dX5_standsOn_13 : decode cX5_standsOn 13 = .ok (.invokevirtual 145, 3) := by decide +kernel
theorem dX5_standsOn_16 : decode cX5_standsOn 16 = .ok (.ireturn, 1) := by decide +kernel
theorem dX5_toldOn_0 : decode cX5_toldOn 0 = .ok (.iconst 0, 1) := by decide +kernel
theorem dX5_toldOn_1 : decode cX5_toldOn 1 = .ok (.istore 5, 2) := by decide +kernel
theorem dX5_toldOn_3 : decode cX5_toldOn 3 = .ok (.iconst 0, 1) := by decide +kernel
theorem dX5_toldOn_4 : decode cX5_toldOn 4 = .ok (.istore 6, 2) := by decide +kernel
theorem dX5_toldOn_6 : decode cX5_toldOn 6 = .ok (.iload 6, 2) := by decide +kernel
theorem dX5_toldOn_8 : decode cX5_toldOn 8 = .ok (.aload_n 0, 1) := by decide +kernel
theorem dX5_toldOn_9 : decode cX5_toldOn 9 = .ok (.getfield 7, 3) := by decide +kernel
theorem dX5_toldOn_12 : decode cX5_toldOn 12 = .ok (.iload_n 1, 1) := by decide +kernel
theorem dX5_toldOn_13 : decode cX5_toldOn 13 = .ok (.bipush 52, 2) := by decide +kernel
theorem dX5_toldOn_15 : decode cX5_toldOn 15 = .ok (.iadd, 1) := by decide +kernel
theorem dX5_toldOn_16 : decode cX5_toldOn 16 = .ok (.iaload, 1) := by decide +kernel
theorem dX5_toldOn_17 : decode cX5_toldOn 17 = .ok (.if_icmp .ge 115, 3) := by decide +kernel
theorem dX5_toldOn_20 : decode cX5_toldOn 20 = .ok (.aload_n 0, 1) := by decide +kernel
theorem dX5_toldOn_21 : decode cX5_toldOn 21 = .ok (.getfield 7, 3) := by decide +kernel
theorem dX5_toldOn_24 : decode cX5_toldOn 24 = .ok (.iload_n 1, 1) := by decide +kernel
theorem dX5_toldOn_25 : decode cX5_toldOn 25 = .ok (.bipush 36, 2) := by decide +kernel
theorem dX5_toldOn_27 : decode cX5_toldOn 27 = .ok (.iadd, 1) := by decide +kernel
theorem dX5_toldOn_28 : decode cX5_toldOn 28 = .ok (.iload 6, 2) := by decide +kernel
theorem dX5_toldOn_30 : decode cX5_toldOn 30 = .ok (.iadd, 1) := by decide +kernel
theorem dX5_toldOn_31 : decode cX5_toldOn 31 = .ok (.iaload, 1) := by decide +kernel
theorem dX5_toldOn_32 : decode cX5_toldOn 32 = .ok (.iload_n 2, 1) := by decide +kernel
theorem dX5_toldOn_33 : decode cX5_toldOn 33 = .ok (.if_icmp .ne 40, 3) := by decide +kernel
theorem dX5_toldOn_36 : decode cX5_toldOn 36 = .ok (.aload_n 0, 1) := by decide +kernel
theorem dX5_toldOn_37 : decode cX5_toldOn 37 = .ok (.getfield 7, 3) := by decide +kernel
theorem dX5_toldOn_40 : decode cX5_toldOn 40 = .ok (.iload_n 1, 1) := by decide +kernel
theorem dX5_toldOn_41 : decode cX5_toldOn 41 = .ok (.bipush 44, 2) := by decide +kernel
theorem dX5_toldOn_43 : decode cX5_toldOn 43 = .ok (.iadd, 1) := by decide +kernel
theorem dX5_toldOn_44 : decode cX5_toldOn 44 = .ok (.iload 6, 2) := by decide +kernel
theorem dX5_toldOn_46 : decode cX5_toldOn 46 = .ok (.iadd, 1) := by decide +kernel
theorem dX5_toldOn_47 : decode cX5_toldOn 47 = .ok (.iaload, 1) := by decide +kernel
theorem dX5_toldOn_48 : decode cX5_toldOn 48 = .ok (.iload_n 3, 1) := by decide +kernel
theorem dX5_toldOn_49 : decode cX5_toldOn 49 = .ok (.if_icmp .ne 24, 3) := by decide +kernel
theorem dX5_toldOn_52 : decode cX5_toldOn 52 = .ok (.aload_n 0, 1) := by decide +kernel
theorem dX5_toldOn_53 : decode cX5_toldOn 53 = .ok (.getfield 7, 3) := by decide +kernel
theorem dX5_toldOn_56 : decode cX5_toldOn 56 = .ok (.iload_n 1, 1) := by decide +kernel
theorem dX5_toldOn_57 : decode cX5_toldOn 57 = .ok (.bipush 20, 2) := by decide +kernel
theorem dX5_toldOn_59 : decode cX5_toldOn 59 = .ok (.iadd, 1) := by decide +kernel
theorem dX5_toldOn_60 : decode cX5_toldOn 60 = .ok (.iload 6, 2) := by decide +kernel
theorem dX5_toldOn_62 : decode cX5_toldOn 62 = .ok (.iadd, 1) := by decide +kernel
theorem dX5_toldOn_63 : decode cX5_toldOn 63 = .ok (.iaload, 1) := by decide +kernel
theorem dX5_toldOn_64 : decode cX5_toldOn 64 = .ok (.iload 4, 2) := by decide +kernel
theorem dX5_toldOn_66 : decode cX5_toldOn 66 = .ok (.if_icmp .gt 7, 3) := by decide +kernel
theorem dX5_toldOn_69 : decode cX5_toldOn 69 = .ok (.iconst 1, 1) := by decide +kernel
theorem dX5_toldOn_70 : decode cX5_toldOn 70 = .ok (.goto 4, 3) := by decide +kernel
theorem dX5_toldOn_73 : decode cX5_toldOn 73 = .ok (.iconst 0, 1) := by decide +kernel
theorem dX5_toldOn_74 : decode cX5_toldOn 74 = .ok (.istore 7, 2) := by decide +kernel
theorem dX5_toldOn_76 : decode cX5_toldOn 76 = .ok (.iload 5, 2) := by decide +kernel
theorem dX5_toldOn_78 : decode cX5_toldOn 78 = .ok (.iload 7, 2) := by decide +kernel
theorem dX5_toldOn_80 : decode cX5_toldOn 80 = .ok (.ifCond .eq 42, 3) := by decide +kernel
theorem dX5_toldOn_83 : decode cX5_toldOn 83 = .ok (.aload_n 0, 1) := by decide +kernel
theorem dX5_toldOn_84 : decode cX5_toldOn 84 = .ok (.getfield 149, 3) := by decide +kernel
theorem dX5_toldOn_87 : decode cX5_toldOn 87 = .ok (.iload 6, 2) := by decide +kernel
theorem dX5_toldOn_89 : decode cX5_toldOn 89 = .ok (.ishr, 1) := by decide +kernel
theorem dX5_toldOn_90 : decode cX5_toldOn 90 = .ok (.iconst 1, 1) := by decide +kernel
theorem dX5_toldOn_91 : decode cX5_toldOn 91 = .ok (.iand, 1) := by decide +kernel
theorem dX5_toldOn_92 : decode cX5_toldOn 92 = .ok (.ifCond .ne 30, 3) := by decide +kernel
theorem dX5_toldOn_95 : decode cX5_toldOn 95 = .ok (.aload_n 0, 1) := by decide +kernel
theorem dX5_toldOn_96 : decode cX5_toldOn 96 = .ok (.getfield 7, 3) := by decide +kernel
theorem dX5_toldOn_99 : decode cX5_toldOn 99 = .ok (.iload_n 1, 1) := by decide +kernel
theorem dX5_toldOn_100 : decode cX5_toldOn 100 = .ok (.bipush 16, 2) := by decide +kernel
theorem dX5_toldOn_102 : decode cX5_toldOn 102 = .ok (.iadd, 1) := by decide +kernel
theorem dX5_toldOn_103 : decode cX5_toldOn 103 = .ok (.aload_n 0, 1) := by decide +kernel
theorem dX5_toldOn_104 : decode cX5_toldOn 104 = .ok (.getfield 7, 3) := by decide +kernel
theorem dX5_toldOn_107 : decode cX5_toldOn 107 = .ok (.iload_n 1, 1) := by decide +kernel
theorem dX5_toldOn_108 : decode cX5_toldOn 108 = .ok (.bipush 28, 2) := by decide +kernel
theorem dX5_toldOn_110 : decode cX5_toldOn 110 = .ok (.iadd, 1) := by decide +kernel
theorem dX5_toldOn_111 : decode cX5_toldOn 111 = .ok (.iload 6, 2) := by decide +kernel
theorem dX5_toldOn_113 : decode cX5_toldOn 113 = .ok (.iadd, 1) := by decide +kernel
theorem dX5_toldOn_114 : decode cX5_toldOn 114 = .ok (.iaload, 1) := by decide +kernel
theorem dX5_toldOn_115 : decode cX5_toldOn 115 = .ok (.iadd, 1) := by decide +kernel
theorem dX5_toldOn_116 : decode cX5_toldOn 116 = .ok (.iaload, 1) := by decide +kernel
theorem dX5_toldOn_117 : decode cX5_toldOn 117 = .ok (.iconst 1, 1) := by decide +kernel
theorem dX5_toldOn_118 : decode cX5_toldOn 118 = .ok (.iadd, 1) := by decide +kernel
theorem dX5_toldOn_119 : decode cX5_toldOn 119 = .ok (.goto 4, 3) := by decide +kernel
theorem dX5_toldOn_122 : decode cX5_toldOn 122 = .ok (.iconst 0, 1) := by decide +kernel
theorem dX5_toldOn_123 : decode cX5_toldOn 123 = .ok (.iadd, 1) := by decide +kernel
theorem dX5_toldOn_124 : decode cX5_toldOn 124 = .ok (.istore 5, 2) := by decide +kernel
theorem dX5_toldOn_126 : decode cX5_toldOn 126 = .ok (.iinc 6 1, 3) := by decide +kernel
theorem dX5_toldOn_129 : decode cX5_toldOn 129 = .ok (.goto (-123), 3) := by decide +kernel
theorem dX5_toldOn_132 : decode cX5_toldOn 132 = .ok (.iload 5, 2) := by decide +kernel
theorem dX5_toldOn_134 : decode cX5_toldOn 134 = .ok (.ireturn, 1) := by decide +kernel
theorem dX5_believedOn_0 : decode cX5_believedOn 0 = .ok (.bipush (-4), 2) := by decide +kernel
theorem dX5_believedOn_2 : decode cX5_believedOn 2 = .ok (.istore 4, 2) := by decide +kernel
theorem dX5_believedOn_4 : decode cX5_believedOn 4 = .ok (.iconst 0, 1) := by decide +kernel
theorem dX5_believedOn_5 : decode cX5_believedOn 5 = .ok (.istore 5, 2) := by decide +kernel
theorem dX5_believedOn_7 : decode cX5_believedOn 7 = .ok (.iconst 0, 1) := by decide +kernel
theorem dX5_believedOn_8 : decode cX5_believedOn 8 = .ok (.istore 6, 2) := by decide +kernel
theorem dX5_believedOn_10 : decode cX5_believedOn 10 = .ok (.iload 6, 2) := by decide +kernel
theorem dX5_believedOn_12 : decode cX5_believedOn 12 = .ok (.iconst 4, 1) := by decide +kernel
theorem dX5_believedOn_13 : decode cX5_believedOn 13 = .ok (.if_icmp .ge 52, 3) := by decide +kernel
theorem dX5_believedOn_16 : decode cX5_believedOn 16 = .ok (.aload_n 0, 1) := by decide +kernel
theorem dX5_believedOn_17 : decode cX5_believedOn 17 = .ok (.iload_n 1, 1) := by decide +kernel
theorem dX5_believedOn_18 : decode cX5_believedOn 18 = .ok (.iload_n 2, 1) := by decide +kernel
theorem dX5_believedOn_19 : decode cX5_believedOn 19 = .ok (.iload 6, 2) := by decide +kernel
theorem dX5_believedOn_21 : decode cX5_believedOn 21 = .ok (.iload_n 3, 1) := by decide +kernel
theorem dX5_believedOn_22 : decode cX5_believedOn 22 = .ok (.invokevirtual 152, 3) := by decide +kernel
theorem dX5_believedOn_25 : decode cX5_believedOn 25 = .ok (.istore 7, 2) := by decide +kernel
theorem dX5_believedOn_27 : decode cX5_believedOn 27 = .ok (.iload 7, 2) := by decide +kernel
theorem dX5_believedOn_29 : decode cX5_believedOn 29 = .ok (.iload 5, 2) := by decide +kernel
theorem dX5_believedOn_31 : decode cX5_believedOn 31 = .ok (.if_icmp .le 8, 3) := by decide +kernel
theorem dX5_believedOn_34 : decode cX5_believedOn 34 = .ok (.iload 6, 2) := by decide +kernel
theorem dX5_believedOn_36 : decode cX5_believedOn 36 = .ok (.goto 5, 3) := by decide +kernel
theorem dX5_believedOn_39 : decode cX5_believedOn 39 = .ok (.iload 4, 2) := by decide +kernel
theorem dX5_believedOn_41 : decode cX5_believedOn 41 = .ok (.istore 4, 2) := by decide +kernel
theorem dX5_believedOn_43 : decode cX5_believedOn 43 = .ok (.iload 7, 2) := by decide +kernel
theorem dX5_believedOn_45 : decode cX5_believedOn 45 = .ok (.iload 5, 2) := by decide +kernel
theorem dX5_believedOn_47 : decode cX5_believedOn 47 = .ok (.if_icmp .le 8, 3) := by decide +kernel
theorem dX5_believedOn_50 : decode cX5_believedOn 50 = .ok (.iload 7, 2) := by decide +kernel
theorem dX5_believedOn_52 : decode cX5_believedOn 52 = .ok (.goto 5, 3) := by decide +kernel
theorem dX5_believedOn_55 : decode cX5_believedOn 55 = .ok (.iload 5, 2) := by decide +kernel
theorem dX5_believedOn_57 : decode cX5_believedOn 57 = .ok (.istore 5, 2) := by decide +kernel
theorem dX5_believedOn_59 : decode cX5_believedOn 59 = .ok (.iinc 6 1, 3) := by decide +kernel
theorem dX5_believedOn_62 : decode cX5_believedOn 62 = .ok (.goto (-52), 3) := by decide +kernel
theorem dX5_believedOn_65 : decode cX5_believedOn 65 = .ok (.iload 4, 2) := by decide +kernel
theorem dX5_believedOn_67 : decode cX5_believedOn 67 = .ok (.ireturn, 1) := by decide +kernel
theorem dX5_agreesOn_0 : decode cX5_agreesOn 0 = .ok (.aload_n 0, 1) := by decide +kernel
theorem dX5_agreesOn_1 : decode cX5_agreesOn 1 = .ok (.iload_n 1, 1) := by decide +kernel
theorem dX5_agreesOn_2 : decode cX5_agreesOn 2 = .ok (.iload_n 2, 1) := by decide +kernel
theorem dX5_agreesOn_3 : decode cX5_agreesOn 3 = .ok (.aload_n 0, 1) := by decide +kernel
theorem dX5_agreesOn_4 : decode cX5_agreesOn 4 = .ok (.getfield 7, 3) := by decide +kernel
theorem dX5_agreesOn_7 : decode cX5_agreesOn 7 = .ok (.iload_n 1, 1) := by decide +kernel
theorem dX5_agreesOn_8 : decode cX5_agreesOn 8 = .ok (.bipush 53, 2) := by decide +kernel
theorem dX5_agreesOn_10 : decode cX5_agreesOn 10 = .ok (.iadd, 1) := by decide +kernel
theorem dX5_agreesOn_11 : decode cX5_agreesOn 11 = .ok (.iaload, 1) := by decide +kernel
theorem dX5_agreesOn_12 : decode cX5_agreesOn 12 = .ok (.invokevirtual 156, 3) := by decide +kernel
theorem dX5_agreesOn_15 : decode cX5_agreesOn 15 = .ok (.istore_n 3, 1) := by decide +kernel
theorem dX5_agreesOn_16 : decode cX5_agreesOn 16 = .ok (.iload_n 3, 1) := by decide +kernel
theorem dX5_agreesOn_17 : decode cX5_agreesOn 17 = .ok (.bipush (-4), 2) := by decide +kernel
theorem dX5_agreesOn_19 : decode cX5_agreesOn 19 = .ok (.if_icmp .eq 13, 3) := by decide +kernel
theorem dX5_agreesOn_22 : decode cX5_agreesOn 22 = .ok (.iload_n 3, 1) := by decide +kernel
theorem dX5_agreesOn_23 : decode cX5_agreesOn 23 = .ok (.aload_n 0, 1) := by decide +kernel
theorem dX5_agreesOn_24 : decode cX5_agreesOn 24 = .ok (.iload_n 1, 1) := by decide +kernel
theorem dX5_agreesOn_25 : decode cX5_agreesOn 25 = .ok (.iload_n 2, 1) := by decide +kernel
theorem dX5_agreesOn_26 : decode cX5_agreesOn 26 = .ok (.invokevirtual 160, 3) := by decide +kernel
theorem dX5_agreesOn_29 : decode cX5_agreesOn 29 = .ok (.if_icmp .ne 7, 3) := by decide +kernel
theorem dX5_agreesOn_32 : decode cX5_agreesOn 32 = .ok (.iconst 1, 1) := by decide +kernel
theorem dX5_agreesOn_33 : decode cX5_agreesOn 33 = .ok (.goto 4, 3) := by decide +kernel
theorem dX5_agreesOn_36 : decode cX5_agreesOn 36 = .ok (.iconst 0, 1) := by decide +kernel
theorem dX5_agreesOn_37 : decode cX5_agreesOn 37 = .ok (.ireturn, 1) := by decide +kernel
theorem dX5_apart_0 : decode cX5_apart 0 = .ok (.iload_n 0, 1) := by decide +kernel
theorem dX5_apart_1 : decode cX5_apart 1 = .ok (.iload_n 1, 1) := by decide +kernel
theorem dX5_apart_2 : decode cX5_apart 2 = .ok (.if_icmp .le 9, 3) := by decide +kernel
theorem dX5_apart_5 : decode cX5_apart 5 = .ok (.iload_n 0, 1) := by decide +kernel
theorem dX5_apart_6 : decode cX5_apart 6 = .ok (.iload_n 1, 1) := by decide +kernel
theorem dX5_apart_7 : decode cX5_apart 7 = .ok (.isub, 1) := by decide +kernel
theorem dX5_apart_8 : decode cX5_apart 8 = .ok (.goto 6, 3) := by decide +kernel
theorem dX5_apart_11 : decode cX5_apart 11 = .ok (.iload_n 1, 1) := by decide +kernel
theorem dX5_apart_12 : decode cX5_apart 12 = .ok (.iload_n 0, 1) := by decide +kernel
theorem dX5_apart_13 : decode cX5_apart 13 = .ok (.isub, 1) := by decide +kernel
theorem dX5_apart_14 : decode cX5_apart 14 = .ok (.ireturn, 1) := by decide +kernel
theorem dX5_legOn_0 : decode cX5_legOn 0 = .ok (.aload_n 0, 1) := by decide +kernel
theorem dX5_legOn_1 : decode cX5_legOn 1 = .ok (.iload_n 1, 1) := by decide +kernel
theorem dX5_legOn_2 : decode cX5_legOn 2 = .ok (.iload_n 2, 1) := by decide +kernel
theorem dX5_legOn_3 : decode cX5_legOn 3 = .ok (.aload_n 0, 1) := by decide +kernel
theorem dX5_legOn_4 : decode cX5_legOn 4 = .ok (.getfield 7, 3) := by decide +kernel
theorem dX5_legOn_7 : decode cX5_legOn 7 = .ok (.iload_n 1, 1) := by decide +kernel
theorem dX5_legOn_8 : decode cX5_legOn 8 = .ok (.bipush 53, 2) := by decide +kernel
theorem dX5_legOn_10 : decode cX5_legOn 10 = .ok (.iadd, 1) := by decide +kernel
theorem dX5_legOn_11 : decode cX5_legOn 11 = .ok (.iaload, 1) := by decide +kernel
theorem dX5_legOn_12 : decode cX5_legOn 12 = .ok (.invokevirtual 156, 3) := by decide +kernel
theorem dX5_legOn_15 : decode cX5_legOn 15 = .ok (.istore_n 3, 1) := by decide +kernel
theorem dX5_legOn_16 : decode cX5_legOn 16 = .ok (.aload_n 0, 1) := by decide +kernel
theorem dX5_legOn_17 : decode cX5_legOn 17 = .ok (.getfield 7, 3) := by decide +kernel
theorem dX5_legOn_20 : decode cX5_legOn 20 = .ok (.iload_n 1, 1) := by decide +kernel
theorem dX5_legOn_21 : decode cX5_legOn 21 = .ok (.iconst 5, 1) := by decide +kernel
theorem dX5_legOn_22 : decode cX5_legOn 22 = .ok (.iadd, 1) := by decide +kernel
theorem dX5_legOn_23 : decode cX5_legOn 23 = .ok (.iload_n 2, 1) := by decide +kernel
theorem dX5_legOn_24 : decode cX5_legOn 24 = .ok (.iadd, 1) := by decide +kernel
theorem dX5_legOn_25 : decode cX5_legOn 25 = .ok (.iaload, 1) := by decide +kernel
theorem dX5_legOn_26 : decode cX5_legOn 26 = .ok (.istore 4, 2) := by decide +kernel
theorem dX5_legOn_28 : decode cX5_legOn 28 = .ok (.aload_n 0, 1) := by decide +kernel
theorem dX5_legOn_29 : decode cX5_legOn 29 = .ok (.iload_n 1, 1) := by decide +kernel
theorem dX5_legOn_30 : decode cX5_legOn 30 = .ok (.iload_n 2, 1) := by decide +kernel
theorem dX5_legOn_31 : decode cX5_legOn 31 = .ok (.invokevirtual 160, 3) := by decide +kernel
theorem dX5_legOn_34 : decode cX5_legOn 34 = .ok (.iload_n 3, 1) := by decide +kernel
theorem dX5_legOn_35 : decode cX5_legOn 35 = .ok (.invokestatic 163, 3) := by decide +kernel
theorem dX5_legOn_38 : decode cX5_legOn 38 = .ok (.istore 5, 2) := by decide +kernel
theorem dX5_legOn_40 : decode cX5_legOn 40 = .ok (.iconst 0, 1) := by decide +kernel
theorem dX5_legOn_41 : decode cX5_legOn 41 = .ok (.istore 6, 2) := by decide +kernel
theorem dX5_legOn_43 : decode cX5_legOn 43 = .ok (.iload 6, 2) := by decide +kernel
theorem dX5_legOn_45 : decode cX5_legOn 45 = .ok (.iconst 4, 1) := by decide +kernel
theorem dX5_legOn_46 : decode cX5_legOn 46 = .ok (.if_icmp .ge 54, 3) := by decide +kernel
theorem dX5_legOn_49 : decode cX5_legOn 49 = .ok (.iload 4, 2) := by decide +kernel
theorem dX5_legOn_51 : decode cX5_legOn 51 = .ok (.iconst 1, 1) := by decide +kernel
theorem dX5_legOn_52 : decode cX5_legOn 52 = .ok (.iload 6, 2) := by decide +kernel
theorem dX5_legOn_54 : decode cX5_legOn 54 = .ok (.ishl, 1) := by decide +kernel
theorem dX5_legOn_55 : decode cX5_legOn 55 = .ok (.ixor, 1) := by decide +kernel
theorem dX5_legOn_56 : decode cX5_legOn 56 = .ok (.istore 7, 2) := by decide +kernel
theorem dX5_legOn_58 : decode cX5_legOn 58 = .ok (.aload_n 0, 1) := by decide +kernel
theorem dX5_legOn_59 : decode cX5_legOn 59 = .ok (.getfield 7, 3) := by decide +kernel
theorem dX5_legOn_62 : decode cX5_legOn 62 = .ok (.iload_n 1, 1) := by decide +kernel
theorem dX5_legOn_63 : decode cX5_legOn 63 = .ok (.iload_n 2, 1) := by decide +kernel
theorem dX5_legOn_64 : decode cX5_legOn 64 = .ok (.iadd, 1) := by decide +kernel
theorem dX5_legOn_65 : decode cX5_legOn 65 = .ok (.iaload, 1) := by decide +kernel
theorem dX5_legOn_66 : decode cX5_legOn 66 = .ok (.iload 7, 2) := by decide +kernel
theorem dX5_legOn_68 : decode cX5_legOn 68 = .ok (.invokestatic 142, 3) := by decide +kernel
theorem dX5_legOn_71 : decode cX5_legOn 71 = .ok (.iload_n 3, 1) := by decide +kernel
theorem dX5_legOn_72 : decode cX5_legOn 72 = .ok (.invokestatic 163, 3) := by decide +kernel
theorem dX5_legOn_75 : decode cX5_legOn 75 = .ok (.iload 5, 2) := by decide +kernel
theorem dX5_legOn_77 : decode cX5_legOn 77 = .ok (.if_icmp .ge 17, 3) := by decide +kernel
theorem dX5_legOn_80 : decode cX5_legOn 80 = .ok (.aload_n 0, 1) := by decide +kernel
theorem dX5_legOn_81 : decode cX5_legOn 81 = .ok (.iload_n 1, 1) := by decide +kernel
theorem dX5_legOn_82 : decode cX5_legOn 82 = .ok (.iload_n 2, 1) := by decide +kernel
theorem dX5_legOn_83 : decode cX5_legOn 83 = .ok (.iload 7, 2) := by decide +kernel
theorem dX5_legOn_85 : decode cX5_legOn 85 = .ok (.invokevirtual 145, 3) := by decide +kernel
theorem dX5_legOn_88 : decode cX5_legOn 88 = .ok (.ifCond .eq 6, 3) := by decide +kernel
theorem dX5_legOn_91 : decode cX5_legOn 91 = .ok (.iload 6, 2) := by decide +kernel
theorem dX5_legOn_93 : decode cX5_legOn 93 = .ok (.ireturn, 1) := by decide +kernel
theorem dX5_legOn_94 : decode cX5_legOn 94 = .ok (.iinc 6 1, 3) := by decide +kernel
theorem dX5_legOn_97 : decode cX5_legOn 97 = .ok (.goto (-54), 3) := by decide +kernel
theorem dX5_legOn_100 : decode cX5_legOn 100 = .ok (.bipush (-4), 2) := by decide +kernel
theorem dX5_legOn_102 : decode cX5_legOn 102 = .ok (.ireturn, 1) := by decide +kernel
theorem dX5_dayOn_0 : decode cX5_dayOn 0 = .ok (.iconst 0, 1) := by decide +kernel
theorem dX5_dayOn_1 : decode cX5_dayOn 1 = .ok (.istore_n 2, 1) := by decide +kernel
theorem dX5_dayOn_2 : decode cX5_dayOn 2 = .ok (.iload_n 2, 1) := by decide +kernel
theorem dX5_dayOn_3 : decode cX5_dayOn 3 = .ok (.aload_n 0, 1) := by decide +kernel
theorem dX5_dayOn_4 : decode cX5_dayOn 4 = .ok (.getfield 131, 3) := by decide +kernel
theorem dX5_dayOn_7 : decode cX5_dayOn 7 = .ok (.if_icmp .ge 94, 3) := by decide +kernel
theorem dX5_dayOn_10 : decode cX5_dayOn 10 = .ok (.aload_n 0, 1) := by decide +kernel
theorem dX5_dayOn_11 : decode cX5_dayOn 11 = .ok (.iload_n 1, 1) := by decide +kernel
theorem dX5_dayOn_12 : decode cX5_dayOn 12 = .ok (.iload_n 2, 1) := by decide +kernel
theorem dX5_dayOn_13 : decode cX5_dayOn 13 = .ok (.invokevirtual 166, 3) := by decide +kernel
theorem dX5_dayOn_16 : decode cX5_dayOn 16 = .ok (.ifCond .eq 8, 3) := by decide +kernel
theorem dX5_dayOn_19 : decode cX5_dayOn 19 = .ok (.bipush (-4), 2) := by decide +kernel
theorem dX5_dayOn_21 : decode cX5_dayOn 21 = .ok (.goto 9, 3) := by decide +kernel
theorem dX5_dayOn_24 : decode cX5_dayOn 24 = .ok (.aload_n 0, 1) := by decide +kernel
theorem dX5_dayOn_25 : decode cX5_dayOn 25 = .ok (.iload_n 1, 1) := by decide +kernel
theorem dX5_dayOn_26 : decode cX5_dayOn 26 = .ok (.iload_n 2, 1) := by decide +kernel
theorem dX5_dayOn_27 : decode cX5_dayOn 27 = .ok (.invokevirtual 170, 3) := by decide +kernel
theorem dX5_dayOn_30 : decode cX5_dayOn 30 = .ok (.istore_n 3, 1) := by decide +kernel
theorem dX5_dayOn_31 : decode cX5_dayOn 31 = .ok (.iload_n 3, 1) := by decide +kernel
theorem dX5_dayOn_32 : decode cX5_dayOn 32 = .ok (.bipush (-4), 2) := by decide +kernel
theorem dX5_dayOn_34 : decode cX5_dayOn 34 = .ok (.if_icmp .eq 61, 3) := by decide +kernel
theorem dX5_dayOn_37 : decode cX5_dayOn 37 = .ok (.aload_n 0, 1) := by decide +kernel
theorem dX5_dayOn_38 : decode cX5_dayOn 38 = .ok (.getfield 7, 3) := by decide +kernel
theorem dX5_dayOn_41 : decode cX5_dayOn 41 = .ok (.iload_n 1, 1) := by decide +kernel
theorem dX5_dayOn_42 : decode cX5_dayOn 42 = .ok (.iconst 5, 1) := by decide +kernel
theorem dX5_dayOn_43 : decode cX5_dayOn 43 = .ok (.iadd, 1) := by decide +kernel
theorem dX5_dayOn_44 : decode cX5_dayOn 44 = .ok (.iload_n 2, 1) := by decide +kernel
theorem dX5_dayOn_45 : decode cX5_dayOn 45 = .ok (.iadd, 1) := by decide +kernel
theorem dX5_dayOn_46 : decode cX5_dayOn 46 = .ok (.dup2, 1) := by decide +kernel
theorem dX5_dayOn_47 : decode cX5_dayOn 47 = .ok (.iaload, 1) := by decide +kernel
theorem dX5_dayOn_48 : decode cX5_dayOn 48 = .ok (.iconst 1, 1) := by decide +kernel
theorem dX5_dayOn_49 : decode cX5_dayOn 49 = .ok (.iload_n 3, 1) := by decide +kernel
theorem dX5_dayOn_50 : decode cX5_dayOn 50 = .ok (.ishl, 1) := by decide +kernel
theorem dX5_dayOn_51 : decode cX5_dayOn 51 = .ok (.ixor, 1) := by decide +kernel
theorem dX5_dayOn_52 : decode cX5_dayOn 52 = .ok (.iastore, 1) := by decide +kernel
theorem dX5_dayOn_53 : decode cX5_dayOn 53 = .ok (.aload_n 0, 1) := by decide +kernel
theorem dX5_dayOn_54 : decode cX5_dayOn 54 = .ok (.getfield 7, 3) := by decide +kernel
theorem dX5_dayOn_57 : decode cX5_dayOn 57 = .ok (.iload_n 1, 1) := by decide +kernel
theorem dX5_dayOn_58 : decode cX5_dayOn 58 = .ok (.bipush 54, 2) := by decide +kernel
theorem dX5_dayOn_60 : decode cX5_dayOn 60 = .ok (.iadd, 1) := by decide +kernel
theorem dX5_dayOn_61 : decode cX5_dayOn 61 = .ok (.dup2, 1) := by decide +kernel
theorem dX5_dayOn_62 : decode cX5_dayOn 62 = .ok (.iaload, 1) := by decide +kernel
theorem dX5_dayOn_63 : decode cX5_dayOn 63 = .ok (.aload_n 0, 1) := by decide +kernel
theorem dX5_dayOn_64 : decode cX5_dayOn 64 = .ok (.getfield 7, 3) := by decide +kernel
theorem dX5_dayOn_67 : decode cX5_dayOn 67 = .ok (.iload_n 1, 1) := by decide +kernel
theorem dX5_dayOn_68 : decode cX5_dayOn 68 = .ok (.bipush 54, 2) := by decide +kernel
theorem dX5_dayOn_70 : decode cX5_dayOn 70 = .ok (.iadd, 1) := by decide +kernel
theorem dX5_dayOn_71 : decode cX5_dayOn 71 = .ok (.iaload, 1) := by decide +kernel
theorem dX5_dayOn_72 : decode cX5_dayOn 72 = .ok (.sipush 9999, 3) := by decide +kernel
theorem dX5_dayOn_75 : decode cX5_dayOn 75 = .ok (.if_icmp .ge 7, 3) := by decide +kernel
theorem dX5_dayOn_78 : decode cX5_dayOn 78 = .ok (.iconst 1, 1) := by decide +kernel
theorem dX5_dayOn_79 : decode cX5_dayOn 79 = .ok (.goto 4, 3) := by decide +kernel
theorem dX5_dayOn_82 : decode cX5_dayOn 82 = .ok (.iconst 0, 1) := by decide +kernel
theorem dX5_dayOn_83 : decode cX5_dayOn 83 = .ok (.iadd, 1) := by decide +kernel
theorem dX5_dayOn_84 : decode cX5_dayOn 84 = .ok (.iastore, 1) := by decide +kernel
theorem dX5_dayOn_85 : decode cX5_dayOn 85 = .ok (.aload_n 0, 1) := by decide +kernel
theorem dX5_dayOn_86 : decode cX5_dayOn 86 = .ok (.dup, 1) := by decide +kernel
theorem dX5_dayOn_87 : decode cX5_dayOn 87 = .ok (.getfield 173, 3) := by decide +kernel
theorem dX5_dayOn_90 : decode cX5_dayOn 90 = .ok (.iconst 1, 1) := by decide +kernel
theorem dX5_dayOn_91 : decode cX5_dayOn 91 = .ok (.iadd, 1) := by decide +kernel
theorem dX5_dayOn_92 : decode cX5_dayOn 92 = .ok (.putfield 173, 3) := by decide +kernel
theorem dX5_dayOn_95 : decode cX5_dayOn 95 = .ok (.iinc 2 1, 3) := by decide +kernel
theorem dX5_dayOn_98 : decode cX5_dayOn 98 = .ok (.goto (-96), 3) := by decide +kernel
theorem dX5_dayOn_101 : decode cX5_dayOn 101 = .ok (.aload_n 0, 1) := by decide +kernel
theorem dX5_dayOn_102 : decode cX5_dayOn 102 = .ok (.getfield 7, 3) := by decide +kernel
theorem dX5_dayOn_105 : decode cX5_dayOn 105 = .ok (.iload_n 1, 1) := by decide +kernel
theorem dX5_dayOn_106 : decode cX5_dayOn 106 = .ok (.bipush 53, 2) := by decide +kernel
theorem dX5_dayOn_108 : decode cX5_dayOn 108 = .ok (.iadd, 1) := by decide +kernel
theorem dX5_dayOn_109 : decode cX5_dayOn 109 = .ok (.dup2, 1) := by decide +kernel
theorem dX5_dayOn_110 : decode cX5_dayOn 110 = .ok (.iaload, 1) := by decide +kernel
theorem dX5_dayOn_111 : decode cX5_dayOn 111 = .ok (.iconst 1, 1) := by decide +kernel
theorem dX5_dayOn_112 : decode cX5_dayOn 112 = .ok (.iadd, 1) := by decide +kernel
theorem dX5_dayOn_113 : decode cX5_dayOn 113 = .ok (.iastore, 1) := by decide +kernel
theorem dX5_dayOn_114 : decode cX5_dayOn 114 = .ok (.return_, 1) := by decide +kernel
theorem dX5_agreeOn_0 : decode cX5_agreeOn 0 = .ok (.iconst 0, 1) := by decide +kernel
theorem dX5_agreeOn_1 : decode cX5_agreeOn 1 = .ok (.istore_n 2, 1) := by decide +kernel
theorem dX5_agreeOn_2 : decode cX5_agreeOn 2 = .ok (.iconst 0, 1) := by decide +kernel
theorem dX5_agreeOn_3 : decode cX5_agreeOn 3 = .ok (.istore_n 3, 1) := by decide +kernel
theorem dX5_agreeOn_4 : decode cX5_agreeOn 4 = .ok (.iload_n 3, 1) := by decide +kernel
theorem dX5_agreeOn_5 : decode cX5_agreeOn 5 = .ok (.aload_n 0, 1) := by decide +kernel
theorem dX5_agreeOn_6 : decode cX5_agreeOn 6 = .ok (.getfield 131, 3) := by decide +kernel
theorem dX5_agreeOn_9 : decode cX5_agreeOn 9 = .ok (.if_icmp .ge 28, 3) := by decide +kernel
theorem dX5_agreeOn_12 : decode cX5_agreeOn 12 = .ok (.iload_n 2, 1) := by decide +kernel
theorem dX5_agreeOn_13 : decode cX5_agreeOn 13 = .ok (.aload_n 0, 1) := by decide +kernel
theorem dX5_agreeOn_14 : decode cX5_agreeOn 14 = .ok (.iload_n 1, 1) := by decide +kernel
theorem dX5_agreeOn_15 : decode cX5_agreeOn 15 = .ok (.iload_n 3, 1) := by decide +kernel
theorem dX5_agreeOn_16 : decode cX5_agreeOn 16 = .ok (.invokevirtual 166, 3) := by decide +kernel
theorem dX5_agreeOn_19 : decode cX5_agreeOn 19 = .ok (.ifCond .eq 9, 3) := by decide +kernel
theorem dX5_agreeOn_22 : decode cX5_agreeOn 22 = .ok (.iconst 1, 1) := by decide +kernel
theorem dX5_agreeOn_23 : decode cX5_agreeOn 23 = .ok (.iload_n 3, 1) := by decide +kernel
theorem dX5_agreeOn_24 : decode cX5_agreeOn 24 = .ok (.ishl, 1) := by decide +kernel
theorem dX5_agreeOn_25 : decode cX5_agreeOn 25 = .ok (.goto 4, 3) := by decide +kernel
theorem dX5_agreeOn_28 : decode cX5_agreeOn 28 = .ok (.iconst 0, 1) := by decide +kernel
theorem dX5_agreeOn_29 : decode cX5_agreeOn 29 = .ok (.ior, 1) := by decide +kernel
theorem dX5_agreeOn_30 : decode cX5_agreeOn 30 = .ok (.istore_n 2, 1) := by decide +kernel
theorem dX5_agreeOn_31 : decode cX5_agreeOn 31 = .ok (.iinc 3 1, 3) := by decide +kernel
theorem dX5_agreeOn_34 : decode cX5_agreeOn 34 = .ok (.goto (-30), 3) := by decide +kernel
theorem dX5_agreeOn_37 : decode cX5_agreeOn 37 = .ok (.iload_n 2, 1) := by decide +kernel
theorem dX5_agreeOn_38 : decode cX5_agreeOn 38 = .ok (.ireturn, 1) := by decide +kernel
theorem dX5_bitsOf_0 : decode cX5_bitsOf 0 = .ok (.iconst 0, 1) := by decide +kernel
theorem dX5_bitsOf_1 : decode cX5_bitsOf 1 = .ok (.istore_n 1, 1) := by decide +kernel
theorem dX5_bitsOf_2 : decode cX5_bitsOf 2 = .ok (.iload_n 0, 1) := by decide +kernel
theorem dX5_bitsOf_3 : decode cX5_bitsOf 3 = .ok (.istore_n 2, 1) := by decide +kernel
theorem dX5_bitsOf_4 : decode cX5_bitsOf 4 = .ok (.iload_n 2, 1) := by decide +kernel
theorem dX5_bitsOf_5 : decode cX5_bitsOf 5 = .ok (.ifCond .le 16, 3) := by decide +kernel
theorem dX5_bitsOf_8 : decode cX5_bitsOf 8 = .ok (.iload_n 1, 1) := by decide +kernel
theorem dX5_bitsOf_9 : decode cX5_bitsOf 9 = .ok (.iload_n 2, 1) := by decide +kernel
theorem dX5_bitsOf_10 : decode cX5_bitsOf 10 = .ok (.iconst 1, 1) := by decide +kernel
theorem dX5_bitsOf_11 : decode cX5_bitsOf 11 = .ok (.iand, 1) := by decide +kernel
theorem dX5_bitsOf_12 : decode cX5_bitsOf 12 = .ok (.iadd, 1) := by decide +kernel
theorem dX5_bitsOf_13 : decode cX5_bitsOf 13 = .ok (.istore_n 1, 1) := by decide +kernel
theorem dX5_bitsOf_14 : decode cX5_bitsOf 14 = .ok (.iload_n 2, 1) := by decide +kernel
theorem dX5_bitsOf_15 : decode cX5_bitsOf 15 = .ok (.iconst 1, 1) := by decide +kernel
theorem dX5_bitsOf_16 : decode cX5_bitsOf 16 = .ok (.ishr, 1) := by decide +kernel
theorem dX5_bitsOf_17 : decode cX5_bitsOf 17 = .ok (.istore_n 2, 1) := by decide +kernel
theorem dX5_bitsOf_18 : decode cX5_bitsOf 18 = .ok (.goto (-14), 3) := by decide +kernel
theorem dX5_bitsOf_21 : decode cX5_bitsOf 21 = .ok (.iload_n 1, 1) := by decide +kernel
theorem dX5_bitsOf_22 : decode cX5_bitsOf 22 = .ok (.ireturn, 1) := by decide +kernel
theorem dX5_rule_0 : decode cX5_rule 0 = .ok (.iconst 0, 1) := by decide +kernel
theorem dX5_rule_1 : decode cX5_rule 1 = .ok (.istore_n 2, 1) := by decide +kernel
theorem dX5_rule_2 : decode cX5_rule 2 = .ok (.iconst 0, 1) := by decide +kernel
theorem dX5_rule_3 : decode cX5_rule 3 = .ok (.istore_n 3, 1) := by decide +kernel
theorem dX5_rule_4 : decode cX5_rule 4 = .ok (.iload_n 3, 1) := by decide +kernel
theorem dX5_rule_5 : decode cX5_rule 5 = .ok (.aload_n 0, 1) := by decide +kernel
theorem dX5_rule_6 : decode cX5_rule 6 = .ok (.getfield 131, 3) := by decide +kernel
theorem dX5_rule_9 : decode cX5_rule 9 = .ok (.if_icmp .ge 28, 3) := by decide +kernel
theorem dX5_rule_12 : decode cX5_rule 12 = .ok (.iload_n 2, 1) := by decide +kernel
theorem dX5_rule_13 : decode cX5_rule 13 = .ok (.aload_n 0, 1) := by decide +kernel
theorem dX5_rule_14 : decode cX5_rule 14 = .ok (.iconst 0, 1) := by decide +kernel
theorem dX5_rule_15 : decode cX5_rule 15 = .ok (.iload_n 3, 1) := by decide +kernel
theorem dX5_rule_16 : decode cX5_rule 16 = .ok (.invokevirtual 176, 3) := by decide +kernel
theorem dX5_rule_19 : decode cX5_rule 19 = .ok (.ifCond .eq 9, 3) := by decide +kernel
theorem dX5_rule_22 : decode cX5_rule 22 = .ok (.iconst 1, 1) := by decide +kernel
theorem dX5_rule_23 : decode cX5_rule 23 = .ok (.iload_n 3, 1) := by decide +kernel
theorem dX5_rule_24 : decode cX5_rule 24 = .ok (.ishl, 1) := by decide +kernel
theorem dX5_rule_25 : decode cX5_rule 25 = .ok (.goto 4, 3) := by decide +kernel
theorem dX5_rule_28 : decode cX5_rule 28 = .ok (.iconst 0, 1) := by decide +kernel
theorem dX5_rule_29 : decode cX5_rule 29 = .ok (.ior, 1) := by decide +kernel
theorem dX5_rule_30 : decode cX5_rule 30 = .ok (.istore_n 2, 1) := by decide +kernel
theorem dX5_rule_31 : decode cX5_rule 31 = .ok (.iinc 3 1, 3) := by decide +kernel
theorem dX5_rule_34 : decode cX5_rule 34 = .ok (.goto (-30), 3) := by decide +kernel
theorem dX5_rule_37 : decode cX5_rule 37 = .ok (.iload_n 1, 1) := by decide +kernel
theorem dX5_rule_38 : decode cX5_rule 38 = .ok (.tableswitch 90 0 6 #[42, 47, 55, 63, 71, 82, 88], 42) := by decide +kernel
theorem dX5_rule_80 : decode cX5_rule 80 = .ok (.aload_n 0, 1) := by decide +kernel
theorem dX5_rule_81 : decode cX5_rule 81 = .ok (.getfield 131, 3) := by decide +kernel
theorem dX5_rule_84 : decode cX5_rule 84 = .ok (.ireturn, 1) := by decide +kernel
theorem dX5_rule_85 : decode cX5_rule 85 = .ok (.aload_n 0, 1) := by decide +kernel
theorem dX5_rule_86 : decode cX5_rule 86 = .ok (.getfield 7, 3) := by decide +kernel
theorem dX5_rule_89 : decode cX5_rule 89 = .ok (.bipush 52, 2) := by decide +kernel
theorem dX5_rule_91 : decode cX5_rule 91 = .ok (.iaload, 1) := by decide +kernel
theorem dX5_rule_92 : decode cX5_rule 92 = .ok (.ireturn, 1) := by decide +kernel
theorem dX5_rule_93 : decode cX5_rule 93 = .ok (.aload_n 0, 1) := by decide +kernel
theorem dX5_rule_94 : decode cX5_rule 94 = .ok (.getfield 7, 3) := by decide +kernel
theorem dX5_rule_97 : decode cX5_rule 97 = .ok (.bipush 53, 2) := by decide +kernel
theorem dX5_rule_99 : decode cX5_rule 99 = .ok (.iaload, 1) := by decide +kernel
theorem dX5_rule_100 : decode cX5_rule 100 = .ok (.ireturn, 1) := by decide +kernel
theorem dX5_rule_101 : decode cX5_rule 101 = .ok (.aload_n 0, 1) := by decide +kernel
theorem dX5_rule_102 : decode cX5_rule 102 = .ok (.getfield 7, 3) := by decide +kernel
theorem dX5_rule_105 : decode cX5_rule 105 = .ok (.bipush 54, 2) := by decide +kernel
theorem dX5_rule_107 : decode cX5_rule 107 = .ok (.iaload, 1) := by decide +kernel
theorem dX5_rule_108 : decode cX5_rule 108 = .ok (.ireturn, 1) := by decide +kernel
theorem dX5_rule_109 : decode cX5_rule 109 = .ok (.aload_n 0, 1) := by decide +kernel
theorem dX5_rule_110 : decode cX5_rule 110 = .ok (.getfield 7, 3) := by decide +kernel
theorem dX5_rule_113 : decode cX5_rule 113 = .ok (.bipush 15, 2) := by decide +kernel
theorem dX5_rule_115 : decode cX5_rule 115 = .ok (.iaload, 1) := by decide +kernel
theorem dX5_rule_116 : decode cX5_rule 116 = .ok (.bipush 25, 2) := by decide +kernel
theorem dX5_rule_118 : decode cX5_rule 118 = .ok (.iadd, 1) := by decide +kernel
theorem dX5_rule_119 : decode cX5_rule 119 = .ok (.ireturn, 1) := by decide +kernel
theorem dX5_rule_120 : decode cX5_rule 120 = .ok (.aload_n 0, 1) := by decide +kernel
theorem dX5_rule_121 : decode cX5_rule 121 = .ok (.iconst 0, 1) := by decide +kernel
theorem dX5_rule_122 : decode cX5_rule 122 = .ok (.invokevirtual 179, 3) := by decide +kernel
theorem dX5_rule_125 : decode cX5_rule 125 = .ok (.ireturn, 1) := by decide +kernel
theorem dX5_rule_126 : decode cX5_rule 126 = .ok (.iload_n 2, 1) := by decide +kernel
theorem dX5_rule_127 : decode cX5_rule 127 = .ok (.ireturn, 1) := by decide +kernel
theorem dX5_rule_128 : decode cX5_rule 128 = .ok (.iconst (-1), 1) := by decide +kernel
theorem dX5_rule_129 : decode cX5_rule 129 = .ok (.ireturn, 1) := by decide +kernel
theorem dX5_rider_0 : decode cX5_rider 0 = .ok (.aload_n 0, 1) := by decide +kernel
theorem dX5_rider_1 : decode cX5_rider 1 = .ok (.iload_n 1, 1) := by decide +kernel
theorem dX5_rider_2 : decode cX5_rider 2 = .ok (.invokevirtual 182, 3) := by decide +kernel
theorem dX5_rider_5 : decode cX5_rider 5 = .ok (.ifCond .eq 15, 3) := by decide +kernel
theorem dX5_rider_8 : decode cX5_rider 8 = .ok (.iload_n 2, 1) := by decide +kernel
theorem dX5_rider_9 : decode cX5_rider 9 = .ok (.i2l, 1) := by decide +kernel
theorem dX5_rider_10 : decode cX5_rider 10 = .ok (.lconst 0, 1) := by decide +kernel
theorem dX5_rider_11 : decode cX5_rider 11 = .ok (.ldc2_w 186, 3) := by decide +kernel
theorem dX5_rider_14 : decode cX5_rider 14 = .ok (.invokestatic 46, 3) := by decide +kernel
theorem dX5_rider_17 : decode cX5_rider 17 = .ok (.ifCond .ne 5, 3) := by decide +kernel
theorem dX5_rider_20 : decode cX5_rider 20 = .ok (.iconst (-1), 1) := by decide +kernel
theorem dX5_rider_21 : decode cX5_rider 21 = .ok (.ireturn, 1) := by decide +kernel
theorem dX5_rider_22 : decode cX5_rider 22 = .ok (.iload_n 2, 1) := by decide +kernel
theorem dX5_rider_23 : decode cX5_rider 23 = .ok (.iconst 3, 1) := by decide +kernel
theorem dX5_rider_24 : decode cX5_rider 24 = .ok (.if_icmp .ge 16, 3) := by decide +kernel
theorem dX5_rider_27 : decode cX5_rider 27 = .ok (.aload_n 0, 1) := by decide +kernel
theorem dX5_rider_28 : decode cX5_rider 28 = .ok (.getfield 7, 3) := by decide +kernel
theorem dX5_rider_31 : decode cX5_rider 31 = .ok (.iconst 5, 1) := by decide +kernel
theorem dX5_rider_32 : decode cX5_rider 32 = .ok (.iload_n 2, 1) := by decide +kernel
theorem dX5_rider_33 : decode cX5_rider 33 = .ok (.imul, 1) := by decide +kernel
theorem dX5_rider_34 : decode cX5_rider 34 = .ok (.iload_n 1, 1) := by decide +kernel
theorem dX5_rider_35 : decode cX5_rider 35 = .ok (.iadd, 1) := by decide +kernel
theorem dX5_rider_36 : decode cX5_rider 36 = .ok (.iaload, 1) := by decide +kernel
theorem dX5_rider_37 : decode cX5_rider 37 = .ok (.goto 52, 3) := by decide +kernel
theorem dX5_rider_40 : decode cX5_rider 40 = .ok (.iload_n 2, 1) := by decide +kernel
theorem dX5_rider_41 : decode cX5_rider 41 = .ok (.iconst 3, 1) := by decide +kernel
theorem dX5_rider_42 : decode cX5_rider 42 = .ok (.if_icmp .ne 12, 3) := by decide +kernel
theorem dX5_rider_45 : decode cX5_rider 45 = .ok (.aload_n 0, 1) := by decide +kernel
theorem dX5_rider_46 : decode cX5_rider 46 = .ok (.iconst 0, 1) := by decide +kernel
theorem dX5_rider_47 : decode cX5_rider 47 = .ok (.iload_n 1, 1) := by decide +kernel
theorem dX5_rider_48 : decode cX5_rider 48 = .ok (.invokevirtual 160, 3) := by decide +kernel
theorem dX5_rider_51 : decode cX5_rider 51 = .ok (.goto 38, 3) := by decide +kernel
theorem dX5_rider_54 : decode cX5_rider 54 = .ok (.iload_n 2, 1) := by decide +kernel
theorem dX5_rider_55 : decode cX5_rider 55 = .ok (.iconst 4, 1) := by decide +kernel
theorem dX5_rider_56 : decode cX5_rider 56 = .ok (.if_icmp .ne 19, 3) := by decide +kernel
theorem dX5_rider_59 : decode cX5_rider 59 = .ok (.aload_n 0, 1) := by decide +kernel
theorem dX5_rider_60 : decode cX5_rider 60 = .ok (.iconst 0, 1) := by decide +kernel
theorem dX5_rider_61 : decode cX5_rider 61 = .ok (.iload_n 1, 1) := by decide +kernel
theorem dX5_rider_62 : decode cX5_rider 62 = .ok (.aload_n 0, 1) := by decide +kernel
theorem dX5_rider_63 : decode cX5_rider 63 = .ok (.getfield 7, 3) := by decide +kernel
theorem dX5_rider_66 : decode cX5_rider 66 = .ok (.bipush 53, 2) := by decide +kernel
theorem dX5_rider_68 : decode cX5_rider 68 = .ok (.iaload, 1) := by decide +kernel
theorem dX5_rider_69 : decode cX5_rider 69 = .ok (.invokevirtual 156, 3) := by decide +kernel
theorem dX5_rider_72 : decode cX5_rider 72 = .ok (.goto 17, 3) := by decide +kernel
theorem dX5_rider_75 : decode cX5_rider 75 = .ok (.aload_n 0, 1) := by decide +kernel
theorem dX5_rider_76 : decode cX5_rider 76 = .ok (.iconst 0, 1) := by decide +kernel
theorem dX5_rider_77 : decode cX5_rider 77 = .ok (.iload_n 1, 1) := by decide +kernel
theorem dX5_rider_78 : decode cX5_rider 78 = .ok (.invokevirtual 176, 3) := by decide +kernel
theorem dX5_rider_81 : decode cX5_rider 81 = .ok (.ifCond .eq 7, 3) := by decide +kernel
theorem dX5_rider_84 : decode cX5_rider 84 = .ok (.iconst 1, 1) := by decide +kernel
theorem dX5_rider_85 : decode cX5_rider 85 = .ok (.goto 4, 3) := by decide +kernel
theorem dX5_rider_88 : decode cX5_rider 88 = .ok (.iconst 0, 1) := by decide +kernel
theorem dX5_rider_89 : decode cX5_rider 89 = .ok (.ireturn, 1) := by decide +kernel
theorem dX5_report_0 : decode cX5_report 0 = .ok (.aload_n 0, 1) := by decide +kernel
theorem dX5_report_1 : decode cX5_report 1 = .ok (.iload_n 1, 1) := by decide +kernel
theorem dX5_report_2 : decode cX5_report 2 = .ok (.invokevirtual 188, 3) := by decide +kernel
theorem dX5_report_5 : decode cX5_report 5 = .ok (.ifCond .eq 32, 3) := by decide +kernel
theorem dX5_report_8 : decode cX5_report 8 = .ok (.iload_n 2, 1) := by decide +kernel
theorem dX5_report_9 : decode cX5_report 9 = .ok (.i2l, 1) := by decide +kernel
theorem dX5_report_10 : decode cX5_report 10 = .ok (.lconst 0, 1) := by decide +kernel
theorem dX5_report_11 : decode cX5_report 11 = .ok (.ldc2_w 91, 3) := by decide +kernel
theorem dX5_report_14 : decode cX5_report 14 = .ok (.invokestatic 46, 3) := by decide +kernel
theorem dX5_report_17 : decode cX5_report 17 = .ok (.ifCond .eq 20, 3) := by decide +kernel
theorem dX5_report_20 : decode cX5_report 20 = .ok (.aload_n 0, 1) := by decide +kernel
theorem dX5_report_21 : decode cX5_report 21 = .ok (.getfield 7, 3) := by decide +kernel
theorem dX5_report_24 : decode cX5_report 24 = .ok (.bipush 20, 2) := by decide +kernel
theorem dX5_report_26 : decode cX5_report 26 = .ok (.bipush 8, 2) := by decide +kernel
theorem dX5_report_28 : decode cX5_report 28 = .ok (.iload_n 2, 1) := by decide +kernel
theorem dX5_report_29 : decode cX5_report 29 = .ok (.imul, 1) := by decide +kernel
theorem dX5_report_30 : decode cX5_report 30 = .ok (.iadd, 1) := by decide +kernel
theorem dX5_report_31 : decode cX5_report 31 = .ok (.iload_n 1, 1) := by decide +kernel
theorem dX5_report_32 : decode cX5_report 32 = .ok (.iadd, 1) := by decide +kernel
theorem dX5_report_33 : decode cX5_report 33 = .ok (.iaload, 1) := by decide +kernel
theorem dX5_report_34 : decode cX5_report 34 = .ok (.goto 4, 3) := by decide +kernel
theorem dX5_report_37 : decode cX5_report 37 = .ok (.iconst (-1), 1) := by decide +kernel
theorem dX5_report_38 : decode cX5_report 38 = .ok (.ireturn, 1) := by decide +kernel
theorem dX5_trust_0 : decode cX5_trust 0 = .ok (.iload_n 1, 1) := by decide +kernel
theorem dX5_trust_1 : decode cX5_trust 1 = .ok (.invokestatic 191, 3) := by decide +kernel
theorem dX5_trust_4 : decode cX5_trust 4 = .ok (.ifCond .eq 17, 3) := by decide +kernel
theorem dX5_trust_7 : decode cX5_trust 7 = .ok (.aload_n 0, 1) := by decide +kernel
theorem dX5_trust_8 : decode cX5_trust 8 = .ok (.getfield 7, 3) := by decide +kernel
theorem dX5_trust_11 : decode cX5_trust 11 = .ok (.bipush 16, 2) := by decide +kernel
theorem dX5_trust_13 : decode cX5_trust 13 = .ok (.iload_n 1, 1) := by decide +kernel
theorem dX5_trust_14 : decode cX5_trust 14 = .ok (.iadd, 1) := by decide +kernel
theorem dX5_trust_15 : decode cX5_trust 15 = .ok (.iaload, 1) := by decide +kernel
theorem dX5_trust_16 : decode cX5_trust 16 = .ok (.iconst 1, 1) := by decide +kernel
theorem dX5_trust_17 : decode cX5_trust 17 = .ok (.iadd, 1) := by decide +kernel
theorem dX5_trust_18 : decode cX5_trust 18 = .ok (.goto 4, 3) := by decide +kernel
theorem dX5_trust_21 : decode cX5_trust 21 = .ok (.iconst (-1), 1) := by decide +kernel
theorem dX5_trust_22 : decode cX5_trust 22 = .ok (.ireturn, 1) := by decide +kernel
theorem dX5_told_0 : decode cX5_told 0 = .ok (.aload_n 0, 1) := by decide +kernel
theorem dX5_told_1 : decode cX5_told 1 = .ok (.iload_n 1, 1) := by decide +kernel
theorem dX5_told_2 : decode cX5_told 2 = .ok (.invokevirtual 182, 3) := by decide +kernel
theorem dX5_told_5 : decode cX5_told 5 = .ok (.ifCond .eq 28, 3) := by decide +kernel
theorem dX5_told_8 : decode cX5_told 8 = .ok (.iload_n 2, 1) := by decide +kernel
theorem dX5_told_9 : decode cX5_told 9 = .ok (.invokestatic 194, 3) := by decide +kernel
theorem dX5_told_12 : decode cX5_told 12 = .ok (.ifCond .eq 21, 3) := by decide +kernel
theorem dX5_told_15 : decode cX5_told 15 = .ok (.iload_n 3, 1) := by decide +kernel
theorem dX5_told_16 : decode cX5_told 16 = .ok (.invokestatic 197, 3) := by decide +kernel
theorem dX5_told_19 : decode cX5_told 19 = .ok (.ifCond .eq 14, 3) := by decide +kernel
theorem dX5_told_22 : decode cX5_told 22 = .ok (.aload_n 0, 1) := by decide +kernel
theorem dX5_told_23 : decode cX5_told 23 = .ok (.iconst 0, 1) := by decide +kernel
theorem dX5_told_24 : decode cX5_told 24 = .ok (.iload_n 1, 1) := by decide +kernel
theorem dX5_told_25 : decode cX5_told 25 = .ok (.iload_n 2, 1) := by decide +kernel
theorem dX5_told_26 : decode cX5_told 26 = .ok (.iload_n 3, 1) := by decide +kernel
theorem dX5_told_27 : decode cX5_told 27 = .ok (.invokevirtual 152, 3) := by decide +kernel
theorem dX5_told_30 : decode cX5_told 30 = .ok (.goto 4, 3) := by decide +kernel
theorem dX5_told_33 : decode cX5_told 33 = .ok (.iconst (-1), 1) := by decide +kernel
theorem dX5_told_34 : decode cX5_told 34 = .ok (.ireturn, 1) := by decide +kernel
theorem dX5_puts_0 : decode cX5_puts 0 = .ok (.iload_n 1, 1) := by decide +kernel
theorem dX5_puts_1 : decode cX5_puts 1 = .ok (.ifCond .ne 5, 3) := by decide +kernel
theorem dX5_puts_4 : decode cX5_puts 4 = .ok (.iconst (-1), 1) := by decide +kernel
theorem dX5_puts_5 : decode cX5_puts 5 = .ok (.ireturn, 1) := by decide +kernel
theorem dX5_puts_6 : decode cX5_puts 6 = .ok (.aload_n 0, 1) := by decide +kernel
theorem dX5_puts_7 : decode cX5_puts 7 = .ok (.getfield 7, 3) := by decide +kernel
theorem dX5_puts_10 : decode cX5_puts 10 = .ok (.iload_n 2, 1) := by decide +kernel
theorem dX5_puts_11 : decode cX5_puts 11 = .ok (.iaload, 1) := by decide +kernel
theorem dX5_puts_12 : decode cX5_puts 12 = .ok (.iload 4, 2) := by decide +kernel
theorem dX5_puts_14 : decode cX5_puts 14 = .ok (.iadd, 1) := by decide +kernel
theorem dX5_puts_15 : decode cX5_puts 15 = .ok (.istore 5, 2) := by decide +kernel
theorem dX5_puts_17 : decode cX5_puts 17 = .ok (.aload_n 0, 1) := by decide +kernel
theorem dX5_puts_18 : decode cX5_puts 18 = .ok (.getfield 7, 3) := by decide +kernel
theorem dX5_puts_21 : decode cX5_puts 21 = .ok (.iload_n 2, 1) := by decide +kernel
theorem dX5_puts_22 : decode cX5_puts 22 = .ok (.iload_n 3, 1) := by decide +kernel
theorem dX5_puts_23 : decode cX5_puts 23 = .ok (.iload 4, 2) := by decide +kernel
theorem dX5_puts_25 : decode cX5_puts 25 = .ok (.isub, 1) := by decide +kernel
theorem dX5_puts_26 : decode cX5_puts 26 = .ok (.iastore, 1) := by decide +kernel
theorem dX5_puts_27 : decode cX5_puts 27 = .ok (.iload 5, 2) := by decide +kernel
theorem dX5_puts_29 : decode cX5_puts 29 = .ok (.ireturn, 1) := by decide +kernel
theorem dX5_alter_0 : decode cX5_alter 0 = .ok (.iload_n 2, 1) := by decide +kernel
theorem dX5_alter_1 : decode cX5_alter 1 = .ok (.ifCond .ne 15, 3) := by decide +kernel
theorem dX5_alter_4 : decode cX5_alter 4 = .ok (.iload_n 3, 1) := by decide +kernel
theorem dX5_alter_5 : decode cX5_alter 5 = .ok (.i2l, 1) := by decide +kernel
theorem dX5_alter_6 : decode cX5_alter 6 = .ok (.lconst 0, 1) := by decide +kernel
theorem dX5_alter_7 : decode cX5_alter 7 = .ok (.ldc2_w 91, 3) := by decide +kernel
theorem dX5_alter_10 : decode cX5_alter 10 = .ok (.invokestatic 46, 3) := by decide +kernel
theorem dX5_alter_13 : decode cX5_alter 13 = .ok (.goto 42, 3) := by decide +kernel
theorem dX5_alter_16 : decode cX5_alter 16 = .ok (.iload_n 2, 1) := by decide +kernel
theorem dX5_alter_17 : decode cX5_alter 17 = .ok (.iconst 1, 1) := by decide +kernel
theorem dX5_alter_18 : decode cX5_alter 18 = .ok (.if_icmp .ne 15, 3) := by decide +kernel
theorem dX5_alter_21 : decode cX5_alter 21 = .ok (.iload_n 3, 1) := by decide +kernel
theorem dX5_alter_22 : decode cX5_alter 22 = .ok (.i2l, 1) := by decide +kernel
theorem dX5_alter_23 : decode cX5_alter 23 = .ok (.lconst 0, 1) := by decide +kernel
theorem dX5_alter_24 : decode cX5_alter 24 = .ok (.ldc2_w 200, 3) := by decide +kernel
theorem dX5_alter_27 : decode cX5_alter 27 = .ok (.invokestatic 46, 3) := by decide +kernel
theorem dX5_alter_30 : decode cX5_alter 30 = .ok (.goto 25, 3) := by decide +kernel
theorem dX5_alter_33 : decode cX5_alter 33 = .ok (.iload_n 2, 1) := by decide +kernel
theorem dX5_alter_34 : decode cX5_alter 34 = .ok (.iconst 2, 1) := by decide +kernel
theorem dX5_alter_35 : decode cX5_alter 35 = .ok (.if_icmp .ne 19, 3) := by decide +kernel
theorem dX5_alter_38 : decode cX5_alter 38 = .ok (.iload_n 3, 1) := by decide +kernel
theorem dX5_alter_39 : decode cX5_alter 39 = .ok (.i2l, 1) := by decide +kernel
theorem dX5_alter_40 : decode cX5_alter 40 = .ok (.lconst 1, 1) := by decide +kernel
theorem dX5_alter_41 : decode cX5_alter 41 = .ok (.ldc2_w 137, 3) := by decide +kernel
theorem dX5_alter_44 : decode cX5_alter 44 = .ok (.invokestatic 46, 3) := by decide +kernel
theorem dX5_alter_47 : decode cX5_alter 47 = .ok (.ifCond .eq 7, 3) := by decide +kernel
theorem dX5_alter_50 : decode cX5_alter 50 = .ok (.iconst 1, 1) := by decide +kernel
theorem dX5_alter_51 : decode cX5_alter 51 = .ok (.goto 4, 3) := by decide +kernel
theorem dX5_alter_54 : decode cX5_alter 54 = .ok (.iconst 0, 1) := by decide +kernel
theorem dX5_alter_55 : decode cX5_alter 55 = .ok (.istore 4, 2) := by decide +kernel
theorem dX5_alter_57 : decode cX5_alter 57 = .ok (.aload_n 0, 1) := by decide +kernel
theorem dX5_alter_58 : decode cX5_alter 58 = .ok (.aload_n 0, 1) := by decide +kernel
theorem dX5_alter_59 : decode cX5_alter 59 = .ok (.iload_n 1, 1) := by decide +kernel
theorem dX5_alter_60 : decode cX5_alter 60 = .ok (.invokevirtual 182, 3) := by decide +kernel
theorem dX5_alter_63 : decode cX5_alter 63 = .ok (.ifCond .eq 12, 3) := by decide +kernel
theorem dX5_alter_66 : decode cX5_alter 66 = .ok (.iload 4, 2) := by decide +kernel
theorem dX5_alter_68 : decode cX5_alter 68 = .ok (.ifCond .eq 7, 3) := by decide +kernel
theorem dX5_alter_71 : decode cX5_alter 71 = .ok (.iconst 1, 1) := by decide +kernel
theorem dX5_alter_72 : decode cX5_alter 72 = .ok (.goto 4, 3) := by decide +kernel
theorem dX5_alter_75 : decode cX5_alter 75 = .ok (.iconst 0, 1) := by decide +kernel
theorem dX5_alter_76 : decode cX5_alter 76 = .ok (.iconst 5, 1) := by decide +kernel
theorem dX5_alter_77 : decode cX5_alter 77 = .ok (.iload_n 2, 1) := by decide +kernel
theorem dX5_alter_78 : decode cX5_alter 78 = .ok (.imul, 1) := by decide +kernel
theorem dX5_alter_79 : decode cX5_alter 79 = .ok (.iload_n 1, 1) := by decide +kernel
theorem dX5_alter_80 : decode cX5_alter 80 = .ok (.iadd, 1) := by decide +kernel
theorem dX5_alter_81 : decode cX5_alter 81 = .ok (.iload_n 3, 1) := by decide +kernel
theorem dX5_alter_82 : decode cX5_alter 82 = .ok (.iconst 0, 1) := by decide +kernel
theorem dX5_alter_83 : decode cX5_alter 83 = .ok (.invokevirtual 202, 3) := by decide +kernel
theorem dX5_alter_86 : decode cX5_alter 86 = .ok (.ireturn, 1) := by decide +kernel
theorem dX5_rely_0 : decode cX5_rely 0 = .ok (.aload_n 0, 1) := by decide +kernel
theorem dX5_rely_1 : decode cX5_rely 1 = .ok (.iload_n 1, 1) := by decide +kernel
theorem dX5_rely_2 : decode cX5_rely 2 = .ok (.invokestatic 191, 3) := by decide +kernel
theorem dX5_rely_5 : decode cX5_rely 5 = .ok (.ifCond .eq 19, 3) := by decide +kernel
theorem dX5_rely_8 : decode cX5_rely 8 = .ok (.iload_n 2, 1) := by decide +kernel
theorem dX5_rely_9 : decode cX5_rely 9 = .ok (.i2l, 1) := by decide +kernel
theorem dX5_rely_10 : decode cX5_rely 10 = .ok (.lconst 0, 1) := by decide +kernel
theorem dX5_rely_11 : decode cX5_rely 11 = .ok (.ldc2_w 206, 3) := by decide +kernel
theorem dX5_rely_14 : decode cX5_rely 14 = .ok (.invokestatic 46, 3) := by decide +kernel
theorem dX5_rely_17 : decode cX5_rely 17 = .ok (.ifCond .eq 7, 3) := by decide +kernel
theorem dX5_rely_20 : decode cX5_rely 20 = .ok (.iconst 1, 1) := by decide +kernel
theorem dX5_rely_21 : decode cX5_rely 21 = .ok (.goto 4, 3) := by decide +kernel
theorem dX5_rely_24 : decode cX5_rely 24 = .ok (.iconst 0, 1) := by decide +kernel
theorem dX5_rely_25 : decode cX5_rely 25 = .ok (.bipush 16, 2) := by decide +kernel
theorem dX5_rely_27 : decode cX5_rely 27 = .ok (.iload_n 1, 1) := by decide +kernel
theorem dX5_rely_28 : decode cX5_rely 28 = .ok (.iadd, 1) := by decide +kernel
theorem dX5_rely_29 : decode cX5_rely 29 = .ok (.iload_n 2, 1) := by decide +kernel
theorem dX5_rely_30 : decode cX5_rely 30 = .ok (.iconst 1, 1) := by decide +kernel
theorem dX5_rely_31 : decode cX5_rely 31 = .ok (.invokevirtual 202, 3) := by decide +kernel
theorem dX5_rely_34 : decode cX5_rely 34 = .ok (.ireturn, 1) := by decide +kernel
theorem dX5_cast_0 : decode cX5_cast 0 = .ok (.aload_n 0, 1) := by decide +kernel
theorem dX5_cast_1 : decode cX5_cast 1 = .ok (.iload_n 1, 1) := by decide +kernel
theorem dX5_cast_2 : decode cX5_cast 2 = .ok (.i2l, 1) := by decide +kernel
theorem dX5_cast_3 : decode cX5_cast 3 = .ok (.lconst 1, 1) := by decide +kernel
theorem dX5_cast_4 : decode cX5_cast 4 = .ok (.ldc2_w 137, 3) := by decide +kernel
theorem dX5_cast_7 : decode cX5_cast 7 = .ok (.invokestatic 46, 3) := by decide +kernel
theorem dX5_cast_10 : decode cX5_cast 10 = .ok (.bipush 15, 2) := by decide +kernel
theorem dX5_cast_12 : decode cX5_cast 12 = .ok (.iload_n 1, 1) := by decide +kernel
theorem dX5_cast_13 : decode cX5_cast 13 = .ok (.bipush 25, 2) := by decide +kernel
theorem dX5_cast_15 : decode cX5_cast 15 = .ok (.invokevirtual 202, 3) := by decide +kernel
theorem dX5_cast_18 : decode cX5_cast 18 = .ok (.ireturn, 1) := by decide +kernel
theorem dX5_sends_0 : decode cX5_sends 0 = .ok (.iload_n 1, 1) := by decide +kernel
theorem dX5_sends_1 : decode cX5_sends 1 = .ok (.invokestatic 197, 3) := by decide +kernel
theorem dX5_sends_4 : decode cX5_sends 4 = .ok (.ifCond .eq 26, 3) := by decide +kernel
theorem dX5_sends_7 : decode cX5_sends 7 = .ok (.iload_n 2, 1) := by decide +kernel
theorem dX5_sends_8 : decode cX5_sends 8 = .ok (.invokestatic 191, 3) := by decide +kernel
theorem dX5_sends_11 : decode cX5_sends 11 = .ok (.ifCond .eq 19, 3) := by decide +kernel
theorem dX5_sends_14 : decode cX5_sends 14 = .ok (.aload_n 0, 1) := by decide +kernel
theorem dX5_sends_15 : decode cX5_sends 15 = .ok (.iload_n 3, 1) := by decide +kernel
theorem dX5_sends_16 : decode cX5_sends 16 = .ok (.invokevirtual 182, 3) := by decide +kernel
theorem dX5_sends_19 : decode cX5_sends 19 = .ok (.ifCond .eq 11, 3) := by decide +kernel
theorem dX5_sends_22 : decode cX5_sends 22 = .ok (.iload 4, 2) := by decide +kernel
theorem dX5_sends_24 : decode cX5_sends 24 = .ok (.invokestatic 194, 3) := by decide +kernel
theorem dX5_sends_27 : decode cX5_sends 27 = .ok (.ifCond .ne 5, 3) := by decide +kernel
theorem dX5_sends_30 : decode cX5_sends 30 = .ok (.iconst (-1), 1) := by decide +kernel
theorem dX5_sends_31 : decode cX5_sends 31 = .ok (.ireturn, 1) := by decide +kernel
theorem dX5_sends_32 : decode cX5_sends 32 = .ok (.aload_n 0, 1) := by decide +kernel
theorem dX5_sends_33 : decode cX5_sends 33 = .ok (.getfield 7, 3) := by decide +kernel
theorem dX5_sends_36 : decode cX5_sends 36 = .ok (.bipush 52, 2) := by decide +kernel
theorem dX5_sends_38 : decode cX5_sends 38 = .ok (.iaload, 1) := by decide +kernel
theorem dX5_sends_39 : decode cX5_sends 39 = .ok (.istore 5, 2) := by decide +kernel
theorem dX5_sends_41 : decode cX5_sends 41 = .ok (.iload 5, 2) := by decide +kernel
theorem dX5_sends_43 : decode cX5_sends 43 = .ok (.bipush 8, 2) := by decide +kernel
theorem dX5_sends_45 : decode cX5_sends 45 = .ok (.if_icmp .ne 6, 3) := by decide +kernel
theorem dX5_sends_48 : decode cX5_sends 48 = .ok (.bipush (-3), 2) := by decide +kernel
theorem dX5_sends_50 : decode cX5_sends 50 = .ok (.ireturn, 1) := by decide +kernel
theorem dX5_sends_51 : decode cX5_sends 51 = .ok (.aload_n 0, 1) := by decide +kernel
theorem dX5_sends_52 : decode cX5_sends 52 = .ok (.getfield 7, 3) := by decide +kernel
theorem dX5_sends_55 : decode cX5_sends 55 = .ok (.bipush 20, 2) := by decide +kernel
theorem dX5_sends_57 : decode cX5_sends 57 = .ok (.iload 5, 2) := by decide +kernel
theorem dX5_sends_59 : decode cX5_sends 59 = .ok (.iadd, 1) := by decide +kernel
theorem dX5_sends_60 : decode cX5_sends 60 = .ok (.iload_n 1, 1) := by decide +kernel
theorem dX5_sends_61 : decode cX5_sends 61 = .ok (.iastore, 1) := by decide +kernel
theorem dX5_sends_62 : decode cX5_sends 62 = .ok (.aload_n 0, 1) := by decide +kernel
theorem dX5_sends_63 : decode cX5_sends 63 = .ok (.getfield 7, 3) := by decide +kernel
theorem dX5_sends_66 : decode cX5_sends 66 = .ok (.bipush 28, 2) := by decide +kernel
theorem dX5_sends_68 : decode cX5_sends 68 = .ok (.iload 5, 2) := by decide +kernel
theorem dX5_sends_70 : decode cX5_sends 70 = .ok (.iadd, 1) := by decide +kernel
theorem dX5_sends_71 : decode cX5_sends 71 = .ok (.iload_n 2, 1) := by decide +kernel
theorem dX5_sends_72 : decode cX5_sends 72 = .ok (.iastore, 1) := by decide +kernel
theorem dX5_sends_73 : decode cX5_sends 73 = .ok (.aload_n 0, 1) := by decide +kernel
theorem dX5_sends_74 : decode cX5_sends 74 = .ok (.getfield 7, 3) := by decide +kernel
theorem dX5_sends_77 : decode cX5_sends 77 = .ok (.bipush 36, 2) := by decide +kernel
theorem dX5_sends_79 : decode cX5_sends 79 = .ok (.iload 5, 2) := by decide +kernel
theorem dX5_sends_81 : decode cX5_sends 81 = .ok (.iadd, 1) := by decide +kernel
theorem dX5_sends_82 : decode cX5_sends 82 = .ok (.iload_n 3, 1) := by decide +kernel
theorem dX5_sends_83 : decode cX5_sends 83 = .ok (.iastore, 1) := by decide +kernel
theorem dX5_sends_84 : decode cX5_sends 84 = .ok (.aload_n 0, 1) := by decide +kernel
theorem dX5_sends_85 : decode cX5_sends 85 = .ok (.getfield 7, 3) := by decide +kernel
theorem dX5_sends_88 : decode cX5_sends 88 = .ok (.bipush 44, 2) := by decide +kernel
theorem dX5_sends_90 : decode cX5_sends 90 = .ok (.iload 5, 2) := by decide +kernel
theorem dX5_sends_92 : decode cX5_sends 92 = .ok (.iadd, 1) := by decide +kernel
theorem dX5_sends_93 : decode cX5_sends 93 = .ok (.iload 4, 2) := by decide +kernel
theorem dX5_sends_95 : decode cX5_sends 95 = .ok (.iastore, 1) := by decide +kernel
theorem dX5_sends_96 : decode cX5_sends 96 = .ok (.aload_n 0, 1) := by decide +kernel
theorem dX5_sends_97 : decode cX5_sends 97 = .ok (.getfield 7, 3) := by decide +kernel
theorem dX5_sends_100 : decode cX5_sends 100 = .ok (.bipush 52, 2) := by decide +kernel
theorem dX5_sends_102 : decode cX5_sends 102 = .ok (.dup2, 1) := by decide +kernel
theorem dX5_sends_103 : decode cX5_sends 103 = .ok (.iaload, 1) := by decide +kernel
theorem dX5_sends_104 : decode cX5_sends 104 = .ok (.iconst 1, 1) := by decide +kernel
theorem dX5_sends_105 : decode cX5_sends 105 = .ok (.iadd, 1) := by decide +kernel
theorem dX5_sends_106 : decode cX5_sends 106 = .ok (.iastore, 1) := by decide +kernel
theorem dX5_sends_107 : decode cX5_sends 107 = .ok (.aload_n 0, 1) := by decide +kernel
theorem dX5_sends_108 : decode cX5_sends 108 = .ok (.getfield 7, 3) := by decide +kernel
theorem dX5_sends_111 : decode cX5_sends 111 = .ok (.bipush 52, 2) := by decide +kernel
theorem dX5_sends_113 : decode cX5_sends 113 = .ok (.iaload, 1) := by decide +kernel
theorem dX5_sends_114 : decode cX5_sends 114 = .ok (.ireturn, 1) := by decide +kernel
theorem dX5_send_0 : decode cX5_send 0 = .ok (.aload_n 0, 1) := by decide +kernel
theorem dX5_send_1 : decode cX5_send 1 = .ok (.iload_n 1, 1) := by decide +kernel
theorem dX5_send_2 : decode cX5_send 2 = .ok (.iload_n 2, 1) := by decide +kernel
theorem dX5_send_3 : decode cX5_send 3 = .ok (.iload_n 3, 1) := by decide +kernel
theorem dX5_send_4 : decode cX5_send 4 = .ok (.iload 4, 2) := by decide +kernel
theorem dX5_send_6 : decode cX5_send 6 = .ok (.invokevirtual 208, 3) := by decide +kernel
theorem dX5_send_9 : decode cX5_send 9 = .ok (.ireturn, 1) := by decide +kernel
theorem dX5_burn_0 : decode cX5_burn 0 = .ok (.aload_n 0, 1) := by decide +kernel
theorem dX5_burn_1 : decode cX5_burn 1 = .ok (.iload_n 1, 1) := by decide +kernel
theorem dX5_burn_2 : decode cX5_burn 2 = .ok (.i2l, 1) := by decide +kernel
theorem dX5_burn_3 : decode cX5_burn 3 = .ok (.lconst 0, 1) := by decide +kernel
theorem dX5_burn_4 : decode cX5_burn 4 = .ok (.aload_n 0, 1) := by decide +kernel
theorem dX5_burn_5 : decode cX5_burn 5 = .ok (.getfield 7, 3) := by decide +kernel
theorem dX5_burn_8 : decode cX5_burn 8 = .ok (.bipush 52, 2) := by decide +kernel
theorem dX5_burn_10 : decode cX5_burn 10 = .ok (.iaload, 1) := by decide +kernel
theorem dX5_burn_11 : decode cX5_burn 11 = .ok (.i2l, 1) := by decide +kernel
theorem dX5_burn_12 : decode cX5_burn 12 = .ok (.invokestatic 46, 3) := by decide +kernel
theorem dX5_burn_15 : decode cX5_burn 15 = .ok (.bipush 52, 2) := by decide +kernel
theorem dX5_burn_17 : decode cX5_burn 17 = .ok (.iload_n 1, 1) := by decide +kernel
theorem dX5_burn_18 : decode cX5_burn 18 = .ok (.iconst 0, 1) := by decide +kernel
theorem dX5_burn_19 : decode cX5_burn 19 = .ok (.invokevirtual 202, 3) := by decide +kernel
theorem dX5_burn_22 : decode cX5_burn 22 = .ok (.ireturn, 1) := by decide +kernel
theorem dX5_days_0 : decode cX5_days 0 = .ok (.iload_n 1, 1) := by decide +kernel
theorem dX5_days_1 : decode cX5_days 1 = .ok (.i2l, 1) := by decide +kernel
theorem dX5_days_2 : decode cX5_days 2 = .ok (.lconst 0, 1) := by decide +kernel
theorem dX5_days_3 : decode cX5_days 3 = .ok (.ldc2_w 211, 3) := by decide +kernel
theorem dX5_days_6 : decode cX5_days 6 = .ok (.invokestatic 46, 3) := by decide +kernel
theorem dX5_days_9 : decode cX5_days 9 = .ok (.ifCond .ne 5, 3) := by decide +kernel
theorem dX5_days_12 : decode cX5_days 12 = .ok (.iconst (-1), 1) := by decide +kernel
theorem dX5_days_13 : decode cX5_days 13 = .ok (.ireturn, 1) := by decide +kernel
theorem dX5_days_14 : decode cX5_days 14 = .ok (.aload_n 0, 1) := by decide +kernel
theorem dX5_days_15 : decode cX5_days 15 = .ok (.getfield 7, 3) := by decide +kernel
theorem dX5_days_18 : decode cX5_days 18 = .ok (.bipush 53, 2) := by decide +kernel
theorem dX5_days_20 : decode cX5_days 20 = .ok (.iaload, 1) := by decide +kernel
theorem dX5_days_21 : decode cX5_days 21 = .ok (.iload_n 1, 1) := by decide +kernel
theorem dX5_days_22 : decode cX5_days 22 = .ok (.iadd, 1) := by decide +kernel
theorem dX5_days_23 : decode cX5_days 23 = .ok (.sipush 999, 3) := by decide +kernel
theorem dX5_days_26 : decode cX5_days 26 = .ok (.if_icmp .le 6, 3) := by decide +kernel
theorem dX5_days_29 : decode cX5_days 29 = .ok (.bipush (-3), 2) := by decide +kernel
theorem dX5_days_31 : decode cX5_days 31 = .ok (.ireturn, 1) := by decide +kernel
theorem dX5_days_32 : decode cX5_days 32 = .ok (.aload_n 0, 1) := by decide +kernel
theorem dX5_days_33 : decode cX5_days 33 = .ok (.iconst 0, 1) := by decide +kernel
theorem dX5_days_34 : decode cX5_days 34 = .ok (.putfield 173, 3) := by decide +kernel
theorem dX5_days_37 : decode cX5_days 37 = .ok (.iconst 0, 1) := by decide +kernel
theorem dX5_days_38 : decode cX5_days 38 = .ok (.istore_n 2, 1) := by decide +kernel
theorem dX5_days_39 : decode cX5_days 39 = .ok (.iload_n 2, 1) := by decide +kernel
theorem dX5_days_40 : decode cX5_days 40 = .ok (.iload_n 1, 1) := by decide +kernel
theorem dX5_days_41 : decode cX5_days 41 = .ok (.if_icmp .ge 14, 3) := by decide +kernel
theorem dX5_days_44 : decode cX5_days 44 = .ok (.aload_n 0, 1) := by decide +kernel
theorem dX5_days_45 : decode cX5_days 45 = .ok (.iconst 0, 1) := by decide +kernel
theorem dX5_days_46 : decode cX5_days 46 = .ok (.invokevirtual 213, 3) := by decide +kernel
theorem dX5_days_49 : decode cX5_days 49 = .ok (.iinc 2 1, 3) := by decide +kernel
theorem dX5_days_52 : decode cX5_days 52 = .ok (.goto (-13), 3) := by decide +kernel
theorem dX5_days_55 : decode cX5_days 55 = .ok (.aload_n 0, 1) := by decide +kernel
theorem dX5_days_56 : decode cX5_days 56 = .ok (.getfield 173, 3) := by decide +kernel
theorem dX5_days_59 : decode cX5_days 59 = .ok (.ireturn, 1) := by decide +kernel
theorem dX5_copies_0 : decode cX5_copies 0 = .ok (.iconst 0, 1) := by decide +kernel
theorem dX5_copies_1 : decode cX5_copies 1 = .ok (.istore_n 3, 1) := by decide +kernel
theorem dX5_copies_2 : decode cX5_copies 2 = .ok (.iload_n 3, 1) := by decide +kernel
theorem dX5_copies_3 : decode cX5_copies 3 = .ok (.bipush 55, 2) := by decide +kernel
theorem dX5_copies_5 : decode cX5_copies 5 = .ok (.if_icmp .ge 25, 3) := by decide +kernel
theorem dX5_copies_8 : decode cX5_copies 8 = .ok (.aload_n 0, 1) := by decide +kernel
theorem dX5_copies_9 : decode cX5_copies 9 = .ok (.getfield 7, 3) := by decide +kernel
theorem dX5_copies_12 : decode cX5_copies 12 = .ok (.iload_n 2, 1) := by decide +kernel
theorem dX5_copies_13 : decode cX5_copies 13 = .ok (.iload_n 3, 1) := by decide +kernel
theorem dX5_copies_14 : decode cX5_copies 14 = .ok (.iadd, 1) := by decide +kernel
theorem dX5_copies_15 : decode cX5_copies 15 = .ok (.aload_n 0, 1) := by decide +kernel
theorem dX5_copies_16 : decode cX5_copies 16 = .ok (.getfield 7, 3) := by decide +kernel
theorem dX5_copies_19 : decode cX5_copies 19 = .ok (.iload_n 1, 1) := by decide +kernel
theorem dX5_copies_20 : decode cX5_copies 20 = .ok (.iload_n 3, 1) := by decide +kernel
theorem dX5_copies_21 : decode cX5_copies 21 = .ok (.iadd, 1) := by decide +kernel
theorem dX5_copies_22 : decode cX5_copies 22 = .ok (.iaload, 1) := by decide +kernel
theorem dX5_copies_23 : decode cX5_copies 23 = .ok (.iastore, 1) := by decide +kernel
theorem dX5_copies_24 : decode cX5_copies 24 = .ok (.iinc 3 1, 3) := by decide +kernel
theorem dX5_copies_27 : decode cX5_copies 27 = .ok (.goto (-25), 3) := by decide +kernel
theorem dX5_copies_30 : decode cX5_copies 30 = .ok (.return_, 1) := by decide +kernel
theorem dX5_daysGo_0 : decode cX5_daysGo 0 = .ok (.aload_n 0, 1) := by decide +kernel
theorem dX5_daysGo_1 : decode cX5_daysGo 1 = .ok (.iload_n 1, 1) := by decide +kernel
theorem dX5_daysGo_2 : decode cX5_daysGo 2 = .ok (.sipush 220, 3) := by decide +kernel
theorem dX5_daysGo_5 : decode cX5_daysGo 5 = .ok (.invokevirtual 216, 3) := by decide +kernel
theorem dX5_daysGo_8 : decode cX5_daysGo 8 = .ok (.aload_n 0, 1) := by decide +kernel
theorem dX5_daysGo_9 : decode cX5_daysGo 9 = .ok (.iconst 0, 1) := by decide +kernel
theorem dX5_daysGo_10 : decode cX5_daysGo 10 = .ok (.putfield 173, 3) := by decide +kernel
theorem dX5_daysGo_13 : decode cX5_daysGo 13 = .ok (.aload_n 0, 1) := by decide +kernel
theorem dX5_daysGo_14 : decode cX5_daysGo 14 = .ok (.iconst 0, 1) := by decide +kernel
theorem dX5_daysGo_15 : decode cX5_daysGo 15 = .ok (.putfield 220, 3) := by decide +kernel
theorem dX5_daysGo_18 : decode cX5_daysGo 18 = .ok (.aload_n 0, 1) := by decide +kernel
theorem dX5_daysGo_19 : decode cX5_daysGo 19 = .ok (.bipush (-4), 2) := by decide +kernel
theorem dX5_daysGo_21 : decode cX5_daysGo 21 = .ok (.putfield 223, 3) := by decide +kernel
theorem dX5_daysGo_24 : decode cX5_daysGo 24 = .ok (.iconst 1, 1) := by decide +kernel
theorem dX5_daysGo_25 : decode cX5_daysGo 25 = .ok (.istore_n 3, 1) := by decide +kernel
theorem dX5_daysGo_26 : decode cX5_daysGo 26 = .ok (.iload_n 3, 1) := by decide +kernel
theorem dX5_daysGo_27 : decode cX5_daysGo 27 = .ok (.iload_n 2, 1) := by decide +kernel
theorem dX5_daysGo_28 : decode cX5_daysGo 28 = .ok (.if_icmp .gt 73, 3) := by decide +kernel
theorem dX5_daysGo_31 : decode cX5_daysGo 31 = .ok (.aload_n 0, 1) := by decide +kernel
theorem dX5_daysGo_32 : decode cX5_daysGo 32 = .ok (.getfield 173, 3) := by decide +kernel
theorem dX5_daysGo_35 : decode cX5_daysGo 35 = .ok (.istore 4, 2) := by decide +kernel
theorem dX5_daysGo_37 : decode cX5_daysGo 37 = .ok (.aload_n 0, 1) := by decide +kernel
theorem dX5_daysGo_38 : decode cX5_daysGo 38 = .ok (.sipush 220, 3) := by decide +kernel
theorem dX5_daysGo_41 : decode cX5_daysGo 41 = .ok (.invokevirtual 213, 3) := by decide +kernel
theorem dX5_daysGo_44 : decode cX5_daysGo 44 = .ok (.aload_n 0, 1) := by decide +kernel
theorem dX5_daysGo_45 : decode cX5_daysGo 45 = .ok (.dup, 1) := by decide +kernel
theorem dX5_daysGo_46 : decode cX5_daysGo 46 = .ok (.getfield 220, 3) := by decide +kernel
theorem dX5_daysGo_49 : decode cX5_daysGo 49 = .ok (.aload_n 0, 1) := by decide +kernel
theorem dX5_daysGo_50 : decode cX5_daysGo 50 = .ok (.getfield 173, 3) := by decide +kernel
theorem dX5_daysGo_53 : decode cX5_daysGo 53 = .ok (.iload 4, 2) := by decide +kernel
theorem dX5_daysGo_55 : decode cX5_daysGo 55 = .ok (.if_icmp .le 7, 3) := by decide +kernel
theorem dX5_daysGo_58 : decode cX5_daysGo 58 = .ok (.iconst 1, 1) := by decide +kernel
theorem dX5_daysGo_59 : decode cX5_daysGo 59 = .ok (.goto 4, 3) := by decide +kernel
theorem dX5_daysGo_62 : decode cX5_daysGo 62 = .ok (.iconst 0, 1) := by decide +kernel
theorem dX5_daysGo_63 : decode cX5_daysGo 63 = .ok (.iadd, 1) := by decide +kernel
theorem dX5_daysGo_64 : decode cX5_daysGo 64 = .ok (.putfield 220, 3) := by decide +kernel
theorem dX5_daysGo_67 : decode cX5_daysGo 67 = .ok (.aload_n 0, 1) := by decide +kernel
theorem dX5_daysGo_68 : decode cX5_daysGo 68 = .ok (.aload_n 0, 1) := by decide +kernel
theorem dX5_daysGo_69 : decode cX5_daysGo 69 = .ok (.getfield 223, 3) := by decide +kernel
theorem dX5_daysGo_72 : decode cX5_daysGo 72 = .ok (.bipush (-4), 2) := by decide +kernel
theorem dX5_daysGo_74 : decode cX5_daysGo 74 = .ok (.if_icmp .ne 14, 3) := by decide +kernel
theorem dX5_daysGo_77 : decode cX5_daysGo 77 = .ok (.aload_n 0, 1) := by decide +kernel
theorem dX5_daysGo_78 : decode cX5_daysGo 78 = .ok (.getfield 173, 3) := by decide +kernel
theorem dX5_daysGo_81 : decode cX5_daysGo 81 = .ok (.ifCond .le 7, 3) := by decide +kernel
theorem dX5_daysGo_84 : decode cX5_daysGo 84 = .ok (.iload_n 3, 1) := by decide +kernel
theorem dX5_daysGo_85 : decode cX5_daysGo 85 = .ok (.goto 7, 3) := by decide +kernel
theorem dX5_daysGo_88 : decode cX5_daysGo 88 = .ok (.aload_n 0, 1) := by decide +kernel
theorem dX5_daysGo_89 : decode cX5_daysGo 89 = .ok (.getfield 223, 3) := by decide +kernel
theorem dX5_daysGo_92 : decode cX5_daysGo 92 = .ok (.putfield 223, 3) := by decide +kernel
theorem dX5_daysGo_95 : decode cX5_daysGo 95 = .ok (.iinc 3 1, 3) := by decide +kernel
theorem dX5_daysGo_98 : decode cX5_daysGo 98 = .ok (.goto (-72), 3) := by decide +kernel
theorem dX5_daysGo_101 : decode cX5_daysGo 101 = .ok (.aload_n 0, 1) := by decide +kernel
theorem dX5_daysGo_102 : decode cX5_daysGo 102 = .ok (.getfield 173, 3) := by decide +kernel
theorem dX5_daysGo_105 : decode cX5_daysGo 105 = .ok (.ireturn, 1) := by decide +kernel
theorem dX5_runs_0 : decode cX5_runs 0 = .ok (.iload_n 1, 1) := by decide +kernel
theorem dX5_runs_1 : decode cX5_runs 1 = .ok (.i2l, 1) := by decide +kernel
theorem dX5_runs_2 : decode cX5_runs 2 = .ok (.lconst 0, 1) := by decide +kernel
theorem dX5_runs_3 : decode cX5_runs 3 = .ok (.ldc2_w 226, 3) := by decide +kernel
theorem dX5_runs_6 : decode cX5_runs 6 = .ok (.invokestatic 46, 3) := by decide +kernel
theorem dX5_runs_9 : decode cX5_runs 9 = .ok (.ifCond .eq 15, 3) := by decide +kernel
theorem dX5_runs_12 : decode cX5_runs 12 = .ok (.iload_n 2, 1) := by decide +kernel
theorem dX5_runs_13 : decode cX5_runs 13 = .ok (.i2l, 1) := by decide +kernel
theorem dX5_runs_14 : decode cX5_runs 14 = .ok (.lconst 0, 1) := by decide +kernel
theorem dX5_runs_15 : decode cX5_runs 15 = .ok (.ldc2_w 91, 3) := by decide +kernel
theorem dX5_runs_18 : decode cX5_runs 18 = .ok (.invokestatic 46, 3) := by decide +kernel
theorem dX5_runs_21 : decode cX5_runs 21 = .ok (.ifCond .ne 5, 3) := by decide +kernel
theorem dX5_runs_24 : decode cX5_runs 24 = .ok (.iconst (-1), 1) := by decide +kernel
theorem dX5_runs_25 : decode cX5_runs 25 = .ok (.ireturn, 1) := by decide +kernel
theorem dX5_runs_26 : decode cX5_runs 26 = .ok (.aload_n 0, 1) := by decide +kernel
theorem dX5_runs_27 : decode cX5_runs 27 = .ok (.iconst 0, 1) := by decide +kernel
theorem dX5_runs_28 : decode cX5_runs 28 = .ok (.iload_n 1, 1) := by decide +kernel
theorem dX5_runs_29 : decode cX5_runs 29 = .ok (.invokevirtual 228, 3) := by decide +kernel
theorem dX5_runs_32 : decode cX5_runs 32 = .ok (.istore_n 3, 1) := by decide +kernel
theorem dX5_runs_33 : decode cX5_runs 33 = .ok (.iload_n 2, 1) := by decide +kernel
theorem dX5_runs_34 : decode cX5_runs 34 = .ok (.ifCond .ne 7, 3) := by decide +kernel
theorem dX5_runs_37 : decode cX5_runs 37 = .ok (.iload_n 3, 1) := by decide +kernel
theorem dX5_runs_38 : decode cX5_runs 38 = .ok (.goto 34, 3) := by decide +kernel
theorem dX5_runs_41 : decode cX5_runs 41 = .ok (.iload_n 2, 1) := by decide +kernel
theorem dX5_runs_42 : decode cX5_runs 42 = .ok (.iconst 1, 1) := by decide +kernel
theorem dX5_runs_43 : decode cX5_runs 43 = .ok (.if_icmp .ne 13, 3) := by decide +kernel
