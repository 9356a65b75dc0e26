theorem d_Mo_init_0 : decode b_Mo_init 0 = .ok (.aload_n 0, 1) := by decide +kernel
theorem d_Mo_init_1 : decode b_Mo_init 1 = .ok (.invokespecial 1, 3) := by decide +kernel
theorem d_Mo_init_4 : decode b_Mo_init 4 = .ok (.aload_n 0, 1) := by decide +kernel
theorem d_Mo_init_5 : decode b_Mo_init 5 = .ok (.bipush 12, 2) := by decide +kernel
theorem d_Mo_init_7 : decode b_Mo_init 7 = .ok (.newarray .int, 2) := by decide +kernel
theorem d_Mo_init_9 : decode b_Mo_init 9 = .ok (.dup, 1) := by decide +kernel
theorem d_Mo_init_10 : decode b_Mo_init 10 = .ok (.iconst 0, 1) := by decide +kernel
theorem d_Mo_init_11 : decode b_Mo_init 11 = .ok (.bipush 99, 2) := by decide +kernel
theorem d_Mo_init_13 : decode b_Mo_init 13 = .ok (.iastore, 1) := by decide +kernel
theorem d_Mo_init_14 : decode b_Mo_init 14 = .ok (.dup, 1) := by decide +kernel
theorem d_Mo_init_15 : decode b_Mo_init 15 = .ok (.iconst 1, 1) := by decide +kernel
theorem d_Mo_init_16 : decode b_Mo_init 16 = .ok (.bipush 111, 2) := by decide +kernel
theorem d_Mo_init_18 : decode b_Mo_init 18 = .ok (.iastore, 1) := by decide +kernel
theorem d_Mo_init_19 : decode b_Mo_init 19 = .ok (.dup, 1) := by decide +kernel
theorem d_Mo_init_20 : decode b_Mo_init 20 = .ok (.iconst 2, 1) := by decide +kernel
theorem d_Mo_init_21 : decode b_Mo_init 21 = .ok (.bipush 110, 2) := by decide +kernel
theorem d_Mo_init_23 : decode b_Mo_init 23 = .ok (.iastore, 1) := by decide +kernel
theorem d_Mo_init_24 : decode b_Mo_init 24 = .ok (.dup, 1) := by decide +kernel
theorem d_Mo_init_25 : decode b_Mo_init 25 = .ok (.iconst 3, 1) := by decide +kernel
theorem d_Mo_init_26 : decode b_Mo_init 26 = .ok (.bipush 116, 2) := by decide +kernel
theorem d_Mo_init_28 : decode b_Mo_init 28 = .ok (.iastore, 1) := by decide +kernel
theorem d_Mo_init_29 : decode b_Mo_init 29 = .ok (.dup, 1) := by decide +kernel
theorem d_Mo_init_30 : decode b_Mo_init 30 = .ok (.iconst 4, 1) := by decide +kernel
theorem d_Mo_init_31 : decode b_Mo_init 31 = .ok (.bipush 101, 2) := by decide +kernel
theorem d_Mo_init_33 : decode b_Mo_init 33 = .ok (.iastore, 1) := by decide +kernel
theorem d_Mo_init_34 : decode b_Mo_init 34 = .ok (.dup, 1) := by decide +kernel
theorem d_Mo_init_35 : decode b_Mo_init 35 = .ok (.iconst 5, 1) := by decide +kernel
theorem d_Mo_init_36 : decode b_Mo_init 36 = .ok (.bipush 110, 2) := by decide +kernel
theorem d_Mo_init_38 : decode b_Mo_init 38 = .ok (.iastore, 1) := by decide +kernel
theorem d_Mo_init_39 : decode b_Mo_init 39 = .ok (.dup, 1) := by decide +kernel
theorem d_Mo_init_40 : decode b_Mo_init 40 = .ok (.bipush 6, 2) := by decide +kernel
theorem d_Mo_init_42 : decode b_Mo_init 42 = .ok (.bipush 116, 2) := by decide +kernel
theorem d_Mo_init_44 : decode b_Mo_init 44 = .ok (.iastore, 1) := by decide +kernel
theorem d_Mo_init_45 : decode b_Mo_init 45 = .ok (.dup, 1) := by decide +kernel
theorem d_Mo_init_46 : decode b_Mo_init 46 = .ok (.bipush 7, 2) := by decide +kernel
theorem d_Mo_init_48 : decode b_Mo_init 48 = .ok (.bipush 45, 2) := by decide +kernel
theorem d_Mo_init_50 : decode b_Mo_init 50 = .ok (.iastore, 1) := by decide +kernel
theorem d_Mo_init_51 : decode b_Mo_init 51 = .ok (.dup, 1) := by decide +kernel
theorem d_Mo_init_52 : decode b_Mo_init 52 = .ok (.bipush 8, 2) := by decide +kernel
theorem d_Mo_init_54 : decode b_Mo_init 54 = .ok (.bipush 116, 2) := by decide +kernel
theorem d_Mo_init_56 : decode b_Mo_init 56 = .ok (.iastore, 1) := by decide +kernel
theorem d_Mo_init_57 : decode b_Mo_init 57 = .ok (.dup, 1) := by decide +kernel
theorem d_Mo_init_58 : decode b_Mo_init 58 = .ok (.bipush 9, 2) := by decide +kernel
theorem d_Mo_init_60 : decode b_Mo_init 60 = .ok (.bipush 121, 2) := by decide +kernel
theorem d_Mo_init_62 : decode b_Mo_init 62 = .ok (.iastore, 1) := by decide +kernel
theorem d_Mo_init_63 : decode b_Mo_init 63 = .ok (.dup, 1) := by decide +kernel
theorem d_Mo_init_64 : decode b_Mo_init 64 = .ok (.bipush 10, 2) := by decide +kernel
theorem d_Mo_init_66 : decode b_Mo_init 66 = .ok (.bipush 112, 2) := by decide +kernel
theorem d_Mo_init_68 : decode b_Mo_init 68 = .ok (.iastore, 1) := by decide +kernel
theorem d_Mo_init_69 : decode b_Mo_init 69 = .ok (.dup, 1) := by decide +kernel
theorem d_Mo_init_70 : decode b_Mo_init 70 = .ok (.bipush 11, 2) := by decide +kernel
theorem d_Mo_init_72 : decode b_Mo_init 72 = .ok (.bipush 101, 2) := by decide +kernel
theorem d_Mo_init_74 : decode b_Mo_init 74 = .ok (.iastore, 1) := by decide +kernel
theorem d_Mo_init_75 : decode b_Mo_init 75 = .ok (.putfield 7, 3) := by decide +kernel
theorem d_Mo_init_78 : decode b_Mo_init 78 = .ok (.aload_n 0, 1) := by decide +kernel
theorem d_Mo_init_79 : decode b_Mo_init 79 = .ok (.bipush 25, 2) := by decide +kernel
theorem d_Mo_init_81 : decode b_Mo_init 81 = .ok (.newarray .int, 2) := by decide +kernel
theorem d_Mo_init_83 : decode b_Mo_init 83 = .ok (.dup, 1) := by decide +kernel
theorem d_Mo_init_84 : decode b_Mo_init 84 = .ok (.iconst 0, 1) := by decide +kernel
theorem d_Mo_init_85 : decode b_Mo_init 85 = .ok (.bipush 99, 2) := by decide +kernel
theorem d_Mo_init_87 : decode b_Mo_init 87 = .ok (.iastore, 1) := by decide +kernel
theorem d_Mo_init_88 : decode b_Mo_init 88 = .ok (.dup, 1) := by decide +kernel
theorem d_Mo_init_89 : decode b_Mo_init 89 = .ok (.iconst 1, 1) := by decide +kernel
theorem d_Mo_init_90 : decode b_Mo_init 90 = .ok (.bipush 111, 2) := by decide +kernel
theorem d_Mo_init_92 : decode b_Mo_init 92 = .ok (.iastore, 1) := by decide +kernel
theorem d_Mo_init_93 : decode b_Mo_init 93 = .ok (.dup, 1) := by decide +kernel
theorem d_Mo_init_94 : decode b_Mo_init 94 = .ok (.iconst 2, 1) := by decide +kernel
theorem d_Mo_init_95 : decode b_Mo_init 95 = .ok (.bipush 110, 2) := by decide +kernel
theorem d_Mo_init_97 : decode b_Mo_init 97 = .ok (.iastore, 1) := by decide +kernel
theorem d_Mo_init_98 : decode b_Mo_init 98 = .ok (.dup, 1) := by decide +kernel
theorem d_Mo_init_99 : decode b_Mo_init 99 = .ok (.iconst 3, 1) := by decide +kernel
theorem d_Mo_init_100 : decode b_Mo_init 100 = .ok (.bipush 116, 2) := by decide +kernel
theorem d_Mo_init_102 : decode b_Mo_init 102 = .ok (.iastore, 1) := by decide +kernel
theorem d_Mo_init_103 : decode b_Mo_init 103 = .ok (.dup, 1) := by decide +kernel
theorem d_Mo_init_104 : decode b_Mo_init 104 = .ok (.iconst 4, 1) := by decide +kernel
theorem d_Mo_init_105 : decode b_Mo_init 105 = .ok (.bipush 101, 2) := by decide +kernel
theorem d_Mo_init_107 : decode b_Mo_init 107 = .ok (.iastore, 1) := by decide +kernel
theorem d_Mo_init_108 : decode b_Mo_init 108 = .ok (.dup, 1) := by decide +kernel
theorem d_Mo_init_109 : decode b_Mo_init 109 = .ok (.iconst 5, 1) := by decide +kernel
theorem d_Mo_init_110 : decode b_Mo_init 110 = .ok (.bipush 110, 2) := by decide +kernel
theorem d_Mo_init_112 : decode b_Mo_init 112 = .ok (.iastore, 1) := by decide +kernel
theorem d_Mo_init_113 : decode b_Mo_init 113 = .ok (.dup, 1) := by decide +kernel
theorem d_Mo_init_114 : decode b_Mo_init 114 = .ok (.bipush 6, 2) := by decide +kernel
theorem d_Mo_init_116 : decode b_Mo_init 116 = .ok (.bipush 116, 2) := by decide +kernel
theorem d_Mo_init_118 : decode b_Mo_init 118 = .ok (.iastore, 1) := by decide +kernel
theorem d_Mo_init_119 : decode b_Mo_init 119 = .ok (.dup, 1) := by decide +kernel
theorem d_Mo_init_120 : decode b_Mo_init 120 = .ok (.bipush 7, 2) := by decide +kernel
theorem d_Mo_init_122 : decode b_Mo_init 122 = .ok (.bipush 45, 2) := by decide +kernel
theorem d_Mo_init_124 : decode b_Mo_init 124 = .ok (.iastore, 1) := by decide +kernel
theorem d_Mo_init_125 : decode b_Mo_init 125 = .ok (.dup, 1) := by decide +kernel
theorem d_Mo_init_126 : decode b_Mo_init 126 = .ok (.bipush 8, 2) := by decide +kernel
theorem d_Mo_init_128 : decode b_Mo_init 128 = .ok (.bipush 116, 2) := by decide +kernel
theorem d_Mo_init_130 : decode b_Mo_init 130 = .ok (.iastore, 1) := by decide +kernel
theorem d_Mo_init_131 : decode b_Mo_init 131 = .ok (.dup, 1) := by decide +kernel
theorem d_Mo_init_132 : decode b_Mo_init 132 = .ok (.bipush 9, 2) := by decide +kernel
theorem d_Mo_init_134 : decode b_Mo_init 134 = .ok (.bipush 114, 2) := by decide +kernel
theorem d_Mo_init_136 : decode b_Mo_init 136 = .ok (.iastore, 1) := by decide +kernel
theorem d_Mo_init_137 : decode b_Mo_init 137 = .ok (.dup, 1) := by decide +kernel
theorem d_Mo_init_138 : decode b_Mo_init 138 = .ok (.bipush 10, 2) := by decide +kernel
theorem d_Mo_init_140 : decode b_Mo_init 140 = .ok (.bipush 97, 2) := by decide +kernel
theorem d_Mo_init_142 : decode b_Mo_init 142 = .ok (.iastore, 1) := by decide +kernel
theorem d_Mo_init_143 : decode b_Mo_init 143 = .ok (.dup, 1) := by decide +kernel
theorem d_Mo_init_144 : decode b_Mo_init 144 = .ok (.bipush 11, 2) := by decide +kernel
theorem d_Mo_init_146 : decode b_Mo_init 146 = .ok (.bipush 110, 2) := by decide +kernel
theorem d_Mo_init_148 : decode b_Mo_init 148 = .ok (.iastore, 1) := by decide +kernel
theorem d_Mo_init_149 : decode b_Mo_init 149 = .ok (.dup, 1) := by decide +kernel
theorem d_Mo_init_150 : decode b_Mo_init 150 = .ok (.bipush 12, 2) := by decide +kernel
theorem d_Mo_init_152 : decode b_Mo_init 152 = .ok (.bipush 115, 2) := by decide +kernel
theorem d_Mo_init_154 : decode b_Mo_init 154 = .ok (.iastore, 1) := by decide +kernel
theorem d_Mo_init_155 : decode b_Mo_init 155 = .ok (.dup, 1) := by decide +kernel
theorem d_Mo_init_156 : decode b_Mo_init 156 = .ok (.bipush 13, 2) := by decide +kernel
theorem d_Mo_init_158 : decode b_Mo_init 158 = .ok (.bipush 102, 2) := by decide +kernel
theorem d_Mo_init_160 : decode b_Mo_init 160 = .ok (.iastore, 1) := by decide +kernel
theorem d_Mo_init_161 : decode b_Mo_init 161 = .ok (.dup, 1) := by decide +kernel
theorem d_Mo_init_162 : decode b_Mo_init 162 = .ok (.bipush 14, 2) := by decide +kernel
theorem d_Mo_init_164 : decode b_Mo_init 164 = .ok (.bipush 101, 2) := by decide +kernel
theorem d_Mo_init_166 : decode b_Mo_init 166 = .ok (.iastore, 1) := by decide +kernel
theorem d_Mo_init_167 : decode b_Mo_init 167 = .ok (.dup, 1) := by decide +kernel
theorem d_Mo_init_168 : decode b_Mo_init 168 = .ok (.bipush 15, 2) := by decide +kernel
theorem d_Mo_init_170 : decode b_Mo_init 170 = .ok (.bipush 114, 2) := by decide +kernel
theorem d_Mo_init_172 : decode b_Mo_init 172 = .ok (.iastore, 1) := by decide +kernel
theorem d_Mo_init_173 : decode b_Mo_init 173 = .ok (.dup, 1) := by decide +kernel
theorem d_Mo_init_174 : decode b_Mo_init 174 = .ok (.bipush 16, 2) := by decide +kernel
theorem d_Mo_init_176 : decode b_Mo_init 176 = .ok (.bipush 45, 2) := by decide +kernel
theorem d_Mo_init_178 : decode b_Mo_init 178 = .ok (.iastore, 1) := by decide +kernel
theorem d_Mo_init_179 : decode b_Mo_init 179 = .ok (.dup, 1) := by decide +kernel
theorem d_Mo_init_180 : decode b_Mo_init 180 = .ok (.bipush 17, 2) := by decide +kernel
theorem d_Mo_init_182 : decode b_Mo_init 182 = .ok (.bipush 101, 2) := by decide +kernel
theorem d_Mo_init_184 : decode b_Mo_init 184 = .ok (.iastore, 1) := by decide +kernel
theorem d_Mo_init_185 : decode b_Mo_init 185 = .ok (.dup, 1) := by decide +kernel
theorem d_Mo_init_186 : decode b_Mo_init 186 = .ok (.bipush 18, 2) := by decide +kernel
theorem d_Mo_init_188 : decode b_Mo_init 188 = .ok (.bipush 110, 2) := by decide +kernel
theorem d_Mo_init_190 : decode b_Mo_init 190 = .ok (.iastore, 1) := by decide +kernel
theorem d_Mo_init_191 : decode b_Mo_init 191 = .ok (.dup, 1) := by decide +kernel
theorem d_Mo_init_192 : decode b_Mo_init 192 = .ok (.bipush 19, 2) := by decide +kernel
theorem d_Mo_init_194 : decode b_Mo_init 194 = .ok (.bipush 99, 2) := by decide +kernel
theorem d_Mo_init_196 : decode b_Mo_init 196 = .ok (.iastore, 1) := by decide +kernel
theorem d_Mo_init_197 : decode b_Mo_init 197 = .ok (.dup, 1) := by decide +kernel
theorem d_Mo_init_198 : decode b_Mo_init 198 = .ok (.bipush 20, 2) := by decide +kernel
theorem d_Mo_init_200 : decode b_Mo_init 200 = .ok (.bipush 111, 2) := by decide +kernel
theorem d_Mo_init_202 : decode b_Mo_init 202 = .ok (.iastore, 1) := by decide +kernel
theorem d_Mo_init_203 : decode b_Mo_init 203 = .ok (.dup, 1) := by decide +kernel
theorem d_Mo_init_204 : decode b_Mo_init 204 = .ok (.bipush 21, 2) := by decide +kernel
theorem d_Mo_init_206 : decode b_Mo_init 206 = .ok (.bipush 100, 2) := by decide +kernel
theorem d_Mo_init_208 : decode b_Mo_init 208 = .ok (.iastore, 1) := by decide +kernel
theorem d_Mo_init_209 : decode b_Mo_init 209 = .ok (.dup, 1) := by decide +kernel
theorem d_Mo_init_210 : decode b_Mo_init 210 = .ok (.bipush 22, 2) := by decide +kernel
theorem d_Mo_init_212 : decode b_Mo_init 212 = .ok (.bipush 105, 2) := by decide +kernel
theorem d_Mo_init_214 : decode b_Mo_init 214 = .ok (.iastore, 1) := by decide +kernel
theorem d_Mo_init_215 : decode b_Mo_init 215 = .ok (.dup, 1) := by decide +kernel
theorem d_Mo_init_216 : decode b_Mo_init 216 = .ok (.bipush 23, 2) := by decide +kernel
theorem d_Mo_init_218 : decode b_Mo_init 218 = .ok (.bipush 110, 2) := by decide +kernel
theorem d_Mo_init_220 : decode b_Mo_init 220 = .ok (.iastore, 1) := by decide +kernel
theorem d_Mo_init_221 : decode b_Mo_init 221 = .ok (.dup, 1) := by decide +kernel
theorem d_Mo_init_222 : decode b_Mo_init 222 = .ok (.bipush 24, 2) := by decide +kernel
theorem d_Mo_init_224 : decode b_Mo_init 224 = .ok (.bipush 103, 2) := by decide +kernel
theorem d_Mo_init_226 : decode b_Mo_init 226 = .ok (.iastore, 1) := by decide +kernel
theorem d_Mo_init_227 : decode b_Mo_init 227 = .ok (.putfield 13, 3) := by decide +kernel
theorem d_Mo_init_230 : decode b_Mo_init 230 = .ok (.aload_n 0, 1) := by decide +kernel
theorem d_Mo_init_231 : decode b_Mo_init 231 = .ok (.bipush 19, 2) := by decide +kernel
theorem d_Mo_init_233 : decode b_Mo_init 233 = .ok (.newarray .int, 2) := by decide +kernel
theorem d_Mo_init_235 : decode b_Mo_init 235 = .ok (.dup, 1) := by decide +kernel
theorem d_Mo_init_236 : decode b_Mo_init 236 = .ok (.iconst 0, 1) := by decide +kernel
theorem d_Mo_init_237 : decode b_Mo_init 237 = .ok (.bipush 99, 2) := by decide +kernel
theorem d_Mo_init_239 : decode b_Mo_init 239 = .ok (.iastore, 1) := by decide +kernel
theorem d_Mo_init_240 : decode b_Mo_init 240 = .ok (.dup, 1) := by decide +kernel
theorem d_Mo_init_241 : decode b_Mo_init 241 = .ok (.iconst 1, 1) := by decide +kernel
theorem d_Mo_init_242 : decode b_Mo_init 242 = .ok (.bipush 111, 2) := by decide +kernel
theorem d_Mo_init_244 : decode b_Mo_init 244 = .ok (.iastore, 1) := by decide +kernel
theorem d_Mo_init_245 : decode b_Mo_init 245 = .ok (.dup, 1) := by decide +kernel
theorem d_Mo_init_246 : decode b_Mo_init 246 = .ok (.iconst 2, 1) := by decide +kernel
theorem d_Mo_init_247 : decode b_Mo_init 247 = .ok (.bipush 110, 2) := by decide +kernel
theorem d_Mo_init_249 : decode b_Mo_init 249 = .ok (.iastore, 1) := by decide +kernel
theorem d_Mo_init_250 : decode b_Mo_init 250 = .ok (.dup, 1) := by decide +kernel
theorem d_Mo_init_251 : decode b_Mo_init 251 = .ok (.iconst 3, 1) := by decide +kernel
theorem d_Mo_init_252 : decode b_Mo_init 252 = .ok (.bipush 116, 2) := by decide +kernel
theorem d_Mo_init_254 : decode b_Mo_init 254 = .ok (.iastore, 1) := by decide +kernel
theorem d_Mo_init_255 : decode b_Mo_init 255 = .ok (.dup, 1) := by decide +kernel
theorem d_Mo_init_256 : decode b_Mo_init 256 = .ok (.iconst 4, 1) := by decide +kernel
theorem d_Mo_init_257 : decode b_Mo_init 257 = .ok (.bipush 101, 2) := by decide +kernel
theorem d_Mo_init_259 : decode b_Mo_init 259 = .ok (.iastore, 1) := by decide +kernel
theorem d_Mo_init_260 : decode b_Mo_init 260 = .ok (.dup, 1) := by decide +kernel
theorem d_Mo_init_261 : decode b_Mo_init 261 = .ok (.iconst 5, 1) := by decide +kernel
theorem d_Mo_init_262 : decode b_Mo_init 262 = .ok (.bipush 110, 2) := by decide +kernel
theorem d_Mo_init_264 : decode b_Mo_init 264 = .ok (.iastore, 1) := by decide +kernel
theorem d_Mo_init_265 : decode b_Mo_init 265 = .ok (.dup, 1) := by decide +kernel
theorem d_Mo_init_266 : decode b_Mo_init 266 = .ok (.bipush 6, 2) := by decide +kernel
theorem d_Mo_init_268 : decode b_Mo_init 268 = .ok (.bipush 116, 2) := by decide +kernel
theorem d_Mo_init_270 : decode b_Mo_init 270 = .ok (.iastore, 1) := by decide +kernel
theorem d_Mo_init_271 : decode b_Mo_init 271 = .ok (.dup, 1) := by decide +kernel
theorem d_Mo_init_272 : decode b_Mo_init 272 = .ok (.bipush 7, 2) := by decide +kernel
theorem d_Mo_init_274 : decode b_Mo_init 274 = .ok (.bipush 45, 2) := by decide +kernel
theorem d_Mo_init_276 : decode b_Mo_init 276 = .ok (.iastore, 1) := by decide +kernel
theorem d_Mo_init_277 : decode b_Mo_init 277 = .ok (.dup, 1) := by decide +kernel
theorem d_Mo_init_278 : decode b_Mo_init 278 = .ok (.bipush 8, 2) := by decide +kernel
theorem d_Mo_init_280 : decode b_Mo_init 280 = .ok (.bipush 100, 2) := by decide +kernel
theorem d_Mo_init_282 : decode b_Mo_init 282 = .ok (.iastore, 1) := by decide +kernel
theorem d_Mo_init_283 : decode b_Mo_init 283 = .ok (.dup, 1) := by decide +kernel
theorem d_Mo_init_284 : decode b_Mo_init 284 = .ok (.bipush 9, 2) := by decide +kernel
theorem d_Mo_init_286 : decode b_Mo_init 286 = .ok (.bipush 105, 2) := by decide +kernel
theorem d_Mo_init_288 : decode b_Mo_init 288 = .ok (.iastore, 1) := by decide +kernel
theorem d_Mo_init_289 : decode b_Mo_init 289 = .ok (.dup, 1) := by decide +kernel
theorem d_Mo_init_290 : decode b_Mo_init 290 = .ok (.bipush 10, 2) := by decide +kernel
theorem d_Mo_init_292 : decode b_Mo_init 292 = .ok (.bipush 115, 2) := by decide +kernel
theorem d_Mo_init_294 : decode b_Mo_init 294 = .ok (.iastore, 1) := by decide +kernel
theorem d_Mo_init_295 : decode b_Mo_init 295 = .ok (.dup, 1) := by decide +kernel
theorem d_Mo_init_296 : decode b_Mo_init 296 = .ok (.bipush 11, 2) := by decide +kernel
theorem d_Mo_init_298 : decode b_Mo_init 298 = .ok (.bipush 112, 2) := by decide +kernel
theorem d_Mo_init_300 : decode b_Mo_init 300 = .ok (.iastore, 1) := by decide +kernel
theorem d_Mo_init_301 : decode b_Mo_init 301 = .ok (.dup, 1) := by decide +kernel
theorem d_Mo_init_302 : decode b_Mo_init 302 = .ok (.bipush 12, 2) := by decide +kernel
theorem d_Mo_init_304 : decode b_Mo_init 304 = .ok (.bipush 111, 2) := by decide +kernel
theorem d_Mo_init_306 : decode b_Mo_init 306 = .ok (.iastore, 1) := by decide +kernel
theorem d_Mo_init_307 : decode b_Mo_init 307 = .ok (.dup, 1) := by decide +kernel
theorem d_Mo_init_308 : decode b_Mo_init 308 = .ok (.bipush 13, 2) := by decide +kernel
theorem d_Mo_init_310 : decode b_Mo_init 310 = .ok (.bipush 115, 2) := by decide +kernel
theorem d_Mo_init_312 : decode b_Mo_init 312 = .ok (.iastore, 1) := by decide +kernel
theorem d_Mo_init_313 : decode b_Mo_init 313 = .ok (.dup, 1) := by decide +kernel
theorem d_Mo_init_314 : decode b_Mo_init 314 = .ok (.bipush 14, 2) := by decide +kernel
theorem d_Mo_init_316 : decode b_Mo_init 316 = .ok (.bipush 105, 2) := by decide +kernel
theorem d_Mo_init_318 : decode b_Mo_init 318 = .ok (.iastore, 1) := by decide +kernel
theorem d_Mo_init_319 : decode b_Mo_init 319 = .ok (.dup, 1) := by decide +kernel
theorem d_Mo_init_320 : decode b_Mo_init 320 = .ok (.bipush 15, 2) := by decide +kernel
theorem d_Mo_init_322 : decode b_Mo_init 322 = .ok (.bipush 116, 2) := by decide +kernel
theorem d_Mo_init_324 : decode b_Mo_init 324 = .ok (.iastore, 1) := by decide +kernel
theorem d_Mo_init_325 : decode b_Mo_init 325 = .ok (.dup, 1) := by decide +kernel
theorem d_Mo_init_326 : decode b_Mo_init 326 = .ok (.bipush 16, 2) := by decide +kernel
theorem d_Mo_init_328 : decode b_Mo_init 328 = .ok (.bipush 105, 2) := by decide +kernel
theorem d_Mo_init_330 : decode b_Mo_init 330 = .ok (.iastore, 1) := by decide +kernel
theorem d_Mo_init_331 : decode b_Mo_init 331 = .ok (.dup, 1) := by decide +kernel
