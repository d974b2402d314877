theorem dX12_init_0 : decode cX12_init 0 = .ok (.aload_n 0, 1) := by decide +kernel
theorem dX12_init_1 : decode cX12_init 1 = .ok (.invokespecial 3, 3) := by decide +kernel
theorem dX12_init_4 : decode cX12_init 4 = .ok (.aload_n 0, 1) := by decide +kernel
theorem dX12_init_5 : decode cX12_init 5 = .ok (.bipush 24, 2) := by decide +kernel
theorem dX12_init_7 : decode cX12_init 7 = .ok (.newarray .long, 2) := by decide +kernel
theorem dX12_init_9 : decode cX12_init 9 = .ok (.putfield 9, 3) := by decide +kernel
theorem dX12_init_12 : decode cX12_init 12 = .ok (.aload_n 0, 1) := by decide +kernel
theorem dX12_init_13 : decode cX12_init 13 = .ok (.iconst 1, 1) := by decide +kernel
theorem dX12_init_14 : decode cX12_init 14 = .ok (.putfield 13, 3) := by decide +kernel
theorem dX12_init_17 : decode cX12_init 17 = .ok (.aload_n 0, 1) := by decide +kernel
theorem dX12_init_18 : decode cX12_init 18 = .ok (.iconst 1, 1) := by decide +kernel
theorem dX12_init_19 : decode cX12_init 19 = .ok (.putfield 17, 3) := by decide +kernel
theorem dX12_init_22 : decode cX12_init 22 = .ok (.aload_n 0, 1) := by decide +kernel
theorem dX12_init_23 : decode cX12_init 23 = .ok (.bipush 20, 2) := by decide +kernel
theorem dX12_init_25 : decode cX12_init 25 = .ok (.newarray .int, 2) := by decide +kernel
theorem dX12_init_27 : decode cX12_init 27 = .ok (.putfield 20, 3) := by decide +kernel
theorem dX12_init_30 : decode cX12_init 30 = .ok (.aload_n 0, 1) := by decide +kernel
theorem dX12_init_31 : decode cX12_init 31 = .ok (.bipush 8, 2) := by decide +kernel
theorem dX12_init_33 : decode cX12_init 33 = .ok (.newarray .int, 2) := by decide +kernel
theorem dX12_init_35 : decode cX12_init 35 = .ok (.putfield 24, 3) := by decide +kernel
theorem dX12_init_38 : decode cX12_init 38 = .ok (.aload_n 0, 1) := by decide +kernel
theorem dX12_init_39 : decode cX12_init 39 = .ok (.bipush 8, 2) := by decide +kernel
theorem dX12_init_41 : decode cX12_init 41 = .ok (.newarray .int, 2) := by decide +kernel
theorem dX12_init_43 : decode cX12_init 43 = .ok (.putfield 27, 3) := by decide +kernel
theorem dX12_init_46 : decode cX12_init 46 = .ok (.aload_n 0, 1) := by decide +kernel
theorem dX12_init_47 : decode cX12_init 47 = .ok (.bipush 8, 2) := by decide +kernel
theorem dX12_init_49 : decode cX12_init 49 = .ok (.newarray .int, 2) := by decide +kernel
theorem dX12_init_51 : decode cX12_init 51 = .ok (.putfield 30, 3) := by decide +kernel
theorem dX12_init_54 : decode cX12_init 54 = .ok (.aload_n 0, 1) := by decide +kernel
theorem dX12_init_55 : decode cX12_init 55 = .ok (.bipush 8, 2) := by decide +kernel
theorem dX12_init_57 : decode cX12_init 57 = .ok (.newarray .int, 2) := by decide +kernel
theorem dX12_init_59 : decode cX12_init 59 = .ok (.putfield 33, 3) := by decide +kernel
theorem dX12_init_62 : decode cX12_init 62 = .ok (.aload_n 0, 1) := by decide +kernel
theorem dX12_init_63 : decode cX12_init 63 = .ok (.bipush 29, 2) := by decide +kernel
theorem dX12_init_65 : decode cX12_init 65 = .ok (.newarray .int, 2) := by decide +kernel
theorem dX12_init_67 : decode cX12_init 67 = .ok (.dup, 1) := by decide +kernel
theorem dX12_init_68 : decode cX12_init 68 = .ok (.iconst 0, 1) := by decide +kernel
theorem dX12_init_69 : decode cX12_init 69 = .ok (.iconst 0, 1) := by decide +kernel
theorem dX12_init_70 : decode cX12_init 70 = .ok (.iastore, 1) := by decide +kernel
theorem dX12_init_71 : decode cX12_init 71 = .ok (.dup, 1) := by decide +kernel
theorem dX12_init_72 : decode cX12_init 72 = .ok (.iconst 1, 1) := by decide +kernel
theorem dX12_init_73 : decode cX12_init 73 = .ok (.iconst 0, 1) := by decide +kernel
theorem dX12_init_74 : decode cX12_init 74 = .ok (.iastore, 1) := by decide +kernel
theorem dX12_init_75 : decode cX12_init 75 = .ok (.dup, 1) := by decide +kernel
theorem dX12_init_76 : decode cX12_init 76 = .ok (.iconst 2, 1) := by decide +kernel
theorem dX12_init_77 : decode cX12_init 77 = .ok (.iconst 0, 1) := by decide +kernel
theorem dX12_init_78 : decode cX12_init 78 = .ok (.iastore, 1) := by decide +kernel
theorem dX12_init_79 : decode cX12_init 79 = .ok (.dup, 1) := by decide +kernel
theorem dX12_init_80 : decode cX12_init 80 = .ok (.iconst 3, 1) := by decide +kernel
theorem dX12_init_81 : decode cX12_init 81 = .ok (.iconst 0, 1) := by decide +kernel
theorem dX12_init_82 : decode cX12_init 82 = .ok (.iastore, 1) := by decide +kernel
theorem dX12_init_83 : decode cX12_init 83 = .ok (.dup, 1) := by decide +kernel
theorem dX12_init_84 : decode cX12_init 84 = .ok (.iconst 4, 1) := by decide +kernel
theorem dX12_init_85 : decode cX12_init 85 = .ok (.iconst 0, 1) := by decide +kernel
theorem dX12_init_86 : decode cX12_init 86 = .ok (.iastore, 1) := by decide +kernel
theorem dX12_init_87 : decode cX12_init 87 = .ok (.dup, 1) := by decide +kernel
theorem dX12_init_88 : decode cX12_init 88 = .ok (.iconst 5, 1) := by decide +kernel
theorem dX12_init_89 : decode cX12_init 89 = .ok (.iconst 0, 1) := by decide +kernel
theorem dX12_init_90 : decode cX12_init 90 = .ok (.iastore, 1) := by decide +kernel
theorem dX12_init_91 : decode cX12_init 91 = .ok (.dup, 1) := by decide +kernel
theorem dX12_init_92 : decode cX12_init 92 = .ok (.bipush 6, 2) := by decide +kernel
theorem dX12_init_94 : decode cX12_init 94 = .ok (.iconst 0, 1) := by decide +kernel
theorem dX12_init_95 : decode cX12_init 95 = .ok (.iastore, 1) := by decide +kernel
theorem dX12_init_96 : decode cX12_init 96 = .ok (.dup, 1) := by decide +kernel
theorem dX12_init_97 : decode cX12_init 97 = .ok (.bipush 7, 2) := by decide +kernel
theorem dX12_init_99 : decode cX12_init 99 = .ok (.iconst 0, 1) := by decide +kernel
theorem dX12_init_100 : decode cX12_init 100 = .ok (.iastore, 1) := by decide +kernel
theorem dX12_init_101 : decode cX12_init 101 = .ok (.dup, 1) := by decide +kernel
theorem dX12_init_102 : decode cX12_init 102 = .ok (.bipush 8, 2) := by decide +kernel
theorem dX12_init_104 : decode cX12_init 104 = .ok (.iconst 0, 1) := by decide +kernel
theorem dX12_init_105 : decode cX12_init 105 = .ok (.iastore, 1) := by decide +kernel
theorem dX12_init_106 : decode cX12_init 106 = .ok (.dup, 1) := by decide +kernel
theorem dX12_init_107 : decode cX12_init 107 = .ok (.bipush 9, 2) := by decide +kernel
theorem dX12_init_109 : decode cX12_init 109 = .ok (.iconst 0, 1) := by decide +kernel
theorem dX12_init_110 : decode cX12_init 110 = .ok (.iastore, 1) := by decide +kernel
theorem dX12_init_111 : decode cX12_init 111 = .ok (.dup, 1) := by decide +kernel
theorem dX12_init_112 : decode cX12_init 112 = .ok (.bipush 10, 2) := by decide +kernel
theorem dX12_init_114 : decode cX12_init 114 = .ok (.iconst 0, 1) := by decide +kernel
theorem dX12_init_115 : decode cX12_init 115 = .ok (.iastore, 1) := by decide +kernel
theorem dX12_init_116 : decode cX12_init 116 = .ok (.dup, 1) := by decide +kernel
theorem dX12_init_117 : decode cX12_init 117 = .ok (.bipush 11, 2) := by decide +kernel
theorem dX12_init_119 : decode cX12_init 119 = .ok (.iconst 0, 1) := by decide +kernel
theorem dX12_init_120 : decode cX12_init 120 = .ok (.iastore, 1) := by decide +kernel
theorem dX12_init_121 : decode cX12_init 121 = .ok (.dup, 1) := by decide +kernel
theorem dX12_init_122 : decode cX12_init 122 = .ok (.bipush 12, 2) := by decide +kernel
theorem dX12_init_124 : decode cX12_init 124 = .ok (.iconst 0, 1) := by decide +kernel
theorem dX12_init_125 : decode cX12_init 125 = .ok (.iastore, 1) := by decide +kernel
theorem dX12_init_126 : decode cX12_init 126 = .ok (.dup, 1) := by decide +kernel
theorem dX12_init_127 : decode cX12_init 127 = .ok (.bipush 13, 2) := by decide +kernel
theorem dX12_init_129 : decode cX12_init 129 = .ok (.iconst 0, 1) := by decide +kernel
theorem dX12_init_130 : decode cX12_init 130 = .ok (.iastore, 1) := by decide +kernel
theorem dX12_init_131 : decode cX12_init 131 = .ok (.dup, 1) := by decide +kernel
theorem dX12_init_132 : decode cX12_init 132 = .ok (.bipush 14, 2) := by decide +kernel
theorem dX12_init_134 : decode cX12_init 134 = .ok (.iconst 0, 1) := by decide +kernel
theorem dX12_init_135 : decode cX12_init 135 = .ok (.iastore, 1) := by decide +kernel
theorem dX12_init_136 : decode cX12_init 136 = .ok (.dup, 1) := by decide +kernel
theorem dX12_init_137 : decode cX12_init 137 = .ok (.bipush 15, 2) := by decide +kernel
theorem dX12_init_139 : decode cX12_init 139 = .ok (.iconst 0, 1) := by decide +kernel
theorem dX12_init_140 : decode cX12_init 140 = .ok (.iastore, 1) := by decide +kernel
theorem dX12_init_141 : decode cX12_init 141 = .ok (.dup, 1) := by decide +kernel
theorem dX12_init_142 : decode cX12_init 142 = .ok (.bipush 16, 2) := by decide +kernel
theorem dX12_init_144 : decode cX12_init 144 = .ok (.iconst 0, 1) := by decide +kernel
theorem dX12_init_145 : decode cX12_init 145 = .ok (.iastore, 1) := by decide +kernel
theorem dX12_init_146 : decode cX12_init 146 = .ok (.dup, 1) := by decide +kernel
theorem dX12_init_147 : decode cX12_init 147 = .ok (.bipush 17, 2) := by decide +kernel
theorem dX12_init_149 : decode cX12_init 149 = .ok (.iconst 0, 1) := by decide +kernel
theorem dX12_init_150 : decode cX12_init 150 = .ok (.iastore, 1) := by decide +kernel
theorem dX12_init_151 : decode cX12_init 151 = .ok (.dup, 1) := by decide +kernel
theorem dX12_init_152 : decode cX12_init 152 = .ok (.bipush 18, 2) := by decide +kernel
theorem dX12_init_154 : decode cX12_init 154 = .ok (.iconst 0, 1) := by decide +kernel
theorem dX12_init_155 : decode cX12_init 155 = .ok (.iastore, 1) := by decide +kernel
theorem dX12_init_156 : decode cX12_init 156 = .ok (.dup, 1) := by decide +kernel
theorem dX12_init_157 : decode cX12_init 157 = .ok (.bipush 19, 2) := by decide +kernel
theorem dX12_init_159 : decode cX12_init 159 = .ok (.iconst 0, 1) := by decide +kernel
theorem dX12_init_160 : decode cX12_init 160 = .ok (.iastore, 1) := by decide +kernel
theorem dX12_init_161 : decode cX12_init 161 = .ok (.dup, 1) := by decide +kernel
theorem dX12_init_162 : decode cX12_init 162 = .ok (.bipush 20, 2) := by decide +kernel
theorem dX12_init_164 : decode cX12_init 164 = .ok (.iconst 0, 1) := by decide +kernel
theorem dX12_init_165 : decode cX12_init 165 = .ok (.iastore, 1) := by decide +kernel
theorem dX12_init_166 : decode cX12_init 166 = .ok (.dup, 1) := by decide +kernel
theorem dX12_init_167 : decode cX12_init 167 = .ok (.bipush 21, 2) := by decide +kernel
theorem dX12_init_169 : decode cX12_init 169 = .ok (.iconst 0, 1) := by decide +kernel
theorem dX12_init_170 : decode cX12_init 170 = .ok (.iastore, 1) := by decide +kernel
theorem dX12_init_171 : decode cX12_init 171 = .ok (.dup, 1) := by decide +kernel
theorem dX12_init_172 : decode cX12_init 172 = .ok (.bipush 22, 2) := by decide +kernel
theorem dX12_init_174 : decode cX12_init 174 = .ok (.iconst 0, 1) := by decide +kernel
theorem dX12_init_175 : decode cX12_init 175 = .ok (.iastore, 1) := by decide +kernel
theorem dX12_init_176 : decode cX12_init 176 = .ok (.dup, 1) := by decide +kernel
theorem dX12_init_177 : decode cX12_init 177 = .ok (.bipush 23, 2) := by decide +kernel
theorem dX12_init_179 : decode cX12_init 179 = .ok (.iconst 0, 1) := by decide +kernel
theorem dX12_init_180 : decode cX12_init 180 = .ok (.iastore, 1) := by decide +kernel
theorem dX12_init_181 : decode cX12_init 181 = .ok (.dup, 1) := by decide +kernel
theorem dX12_init_182 : decode cX12_init 182 = .ok (.bipush 24, 2) := by decide +kernel
theorem dX12_init_184 : decode cX12_init 184 = .ok (.iconst 0, 1) := by decide +kernel
theorem dX12_init_185 : decode cX12_init 185 = .ok (.iastore, 1) := by decide +kernel
theorem dX12_init_186 : decode cX12_init 186 = .ok (.dup, 1) := by decide +kernel
theorem dX12_init_187 : decode cX12_init 187 = .ok (.bipush 25, 2) := by decide +kernel
theorem dX12_init_189 : decode cX12_init 189 = .ok (.iconst 5, 1) := by decide +kernel
theorem dX12_init_190 : decode cX12_init 190 = .ok (.iastore, 1) := by decide +kernel
theorem dX12_init_191 : decode cX12_init 191 = .ok (.dup, 1) := by decide +kernel
theorem dX12_init_192 : decode cX12_init 192 = .ok (.bipush 26, 2) := by decide +kernel
theorem dX12_init_194 : decode cX12_init 194 = .ok (.bipush 20, 2) := by decide +kernel
theorem dX12_init_196 : decode cX12_init 196 = .ok (.iastore, 1) := by decide +kernel
theorem dX12_init_197 : decode cX12_init 197 = .ok (.dup, 1) := by decide +kernel
theorem dX12_init_198 : decode cX12_init 198 = .ok (.bipush 27, 2) := by decide +kernel
theorem dX12_init_200 : decode cX12_init 200 = .ok (.iconst 0, 1) := by decide +kernel
theorem dX12_init_201 : decode cX12_init 201 = .ok (.iastore, 1) := by decide +kernel
theorem dX12_init_202 : decode cX12_init 202 = .ok (.dup, 1) := by decide +kernel
theorem dX12_init_203 : decode cX12_init 203 = .ok (.bipush 28, 2) := by decide +kernel
theorem dX12_init_205 : decode cX12_init 205 = .ok (.iconst 0, 1) := by decide +kernel
theorem dX12_init_206 : decode cX12_init 206 = .ok (.iastore, 1) := by decide +kernel
theorem dX12_init_207 : decode cX12_init 207 = .ok (.putfield 36, 3) := by decide +kernel
theorem dX12_init_210 : decode cX12_init 210 = .ok (.aload_n 0, 1) := by decide +kernel
theorem dX12_init_211 : decode cX12_init 211 = .ok (.bipush 29, 2) := by decide +kernel
theorem dX12_init_213 : decode cX12_init 213 = .ok (.newarray .int, 2) := by decide +kernel
theorem dX12_init_215 : decode cX12_init 215 = .ok (.putfield 39, 3) := by decide +kernel
theorem dX12_init_218 : decode cX12_init 218 = .ok (.aload_n 0, 1) := by decide +kernel
theorem dX12_init_219 : decode cX12_init 219 = .ok (.bipush 80, 2) := by decide +kernel
theorem dX12_init_221 : decode cX12_init 221 = .ok (.newarray .int, 2) := by decide +kernel
theorem dX12_init_223 : decode cX12_init 223 = .ok (.putfield 42, 3) := by decide +kernel
theorem dX12_init_226 : decode cX12_init 226 = .ok (.aload_n 0, 1) := by decide +kernel
theorem dX12_init_227 : decode cX12_init 227 = .ok (.bipush 20, 2) := by decide +kernel
theorem dX12_init_229 : decode cX12_init 229 = .ok (.newarray .int, 2) := by decide +kernel
theorem dX12_init_231 : decode cX12_init 231 = .ok (.putfield 45, 3) := by decide +kernel
theorem dX12_init_234 : decode cX12_init 234 = .ok (.aload_n 0, 1) := by decide +kernel
theorem dX12_init_235 : decode cX12_init 235 = .ok (.bipush 80, 2) := by decide +kernel
theorem dX12_init_237 : decode cX12_init 237 = .ok (.newarray .int, 2) := by decide +kernel
theorem dX12_init_239 : decode cX12_init 239 = .ok (.putfield 48, 3) := by decide +kernel
theorem dX12_init_242 : decode cX12_init 242 = .ok (.aload_n 0, 1) := by decide +kernel
theorem dX12_init_243 : decode cX12_init 243 = .ok (.bipush 80, 2) := by decide +kernel
theorem dX12_init_245 : decode cX12_init 245 = .ok (.newarray .int, 2) := by decide +kernel
theorem dX12_init_247 : decode cX12_init 247 = .ok (.putfield 51, 3) := by decide +kernel
theorem dX12_init_250 : decode cX12_init 250 = .ok (.aload_n 0, 1) := by decide +kernel
theorem dX12_init_251 : decode cX12_init 251 = .ok (.bipush 80, 2) := by decide +kernel
theorem dX12_init_253 : decode cX12_init 253 = .ok (.newarray .int, 2) := by decide +kernel
theorem dX12_init_255 : decode cX12_init 255 = .ok (.putfield 54, 3) := by decide +kernel
theorem dX12_init_258 : decode cX12_init 258 = .ok (.aload_n 0, 1) := by decide +kernel
theorem dX12_init_259 : decode cX12_init 259 = .ok (.iconst 5, 1) := by decide +kernel
theorem dX12_init_260 : decode cX12_init 260 = .ok (.newarray .int, 2) := by decide +kernel
theorem dX12_init_262 : decode cX12_init 262 = .ok (.putfield 57, 3) := by decide +kernel
theorem dX12_init_265 : decode cX12_init 265 = .ok (.aload_n 0, 1) := by decide +kernel
theorem dX12_init_266 : decode cX12_init 266 = .ok (.sipush 464, 3) := by decide +kernel
theorem dX12_init_269 : decode cX12_init 269 = .ok (.newarray .int, 2) := by decide +kernel
theorem dX12_init_271 : decode cX12_init 271 = .ok (.putfield 60, 3) := by decide +kernel
theorem dX12_init_274 : decode cX12_init 274 = .ok (.aload_n 0, 1) := by decide +kernel
theorem dX12_init_275 : decode cX12_init 275 = .ok (.bipush 12, 2) := by decide +kernel
theorem dX12_init_277 : decode cX12_init 277 = .ok (.newarray .int, 2) := by decide +kernel
theorem dX12_init_279 : decode cX12_init 279 = .ok (.putfield 63, 3) := by decide +kernel
theorem dX12_init_282 : decode cX12_init 282 = .ok (.aload_n 0, 1) := by decide +kernel
theorem dX12_init_283 : decode cX12_init 283 = .ok (.bipush 60, 2) := by decide +kernel
theorem dX12_init_285 : decode cX12_init 285 = .ok (.newarray .int, 2) := by decide +kernel
theorem dX12_init_287 : decode cX12_init 287 = .ok (.putfield 66, 3) := by decide +kernel
theorem dX12_init_290 : decode cX12_init 290 = .ok (.aload_n 0, 1) := by decide +kernel
theorem dX12_init_291 : decode cX12_init 291 = .ok (.bipush 60, 2) := by decide +kernel
theorem dX12_init_293 : decode cX12_init 293 = .ok (.newarray .int, 2) := by decide +kernel
theorem dX12_init_295 : decode cX12_init 295 = .ok (.putfield 69, 3) := by decide +kernel
theorem dX12_init_298 : decode cX12_init 298 = .ok (.aload_n 0, 1) := by decide +kernel
theorem dX12_init_299 : decode cX12_init 299 = .ok (.bipush 60, 2) := by decide +kernel
theorem dX12_init_301 : decode cX12_init 301 = .ok (.newarray .int, 2) := by decide +kernel
theorem dX12_init_303 : decode cX12_init 303 = .ok (.putfield 72, 3) := by decide +kernel
theorem dX12_init_306 : decode cX12_init 306 = .ok (.aload_n 0, 1) := by decide +kernel
theorem dX12_init_307 : decode cX12_init 307 = .ok (.bipush 12, 2) := by decide +kernel
theorem dX12_init_309 : decode cX12_init 309 = .ok (.newarray .int, 2) := by decide +kernel
theorem dX12_init_311 : decode cX12_init 311 = .ok (.putfield 75, 3) := by decide +kernel
theorem dX12_init_314 : decode cX12_init 314 = .ok (.aload_n 0, 1) := by decide +kernel
theorem dX12_init_315 : decode cX12_init 315 = .ok (.bipush 12, 2) := by decide +kernel
theorem dX12_init_317 : decode cX12_init 317 = .ok (.newarray .int, 2) := by decide +kernel
theorem dX12_init_319 : decode cX12_init 319 = .ok (.putfield 78, 3) := by decide +kernel
theorem dX12_init_322 : decode cX12_init 322 = .ok (.aload_n 0, 1) := by decide +kernel
theorem dX12_init_323 : decode cX12_init 323 = .ok (.bipush 12, 2) := by decide +kernel
theorem dX12_init_325 : decode cX12_init 325 = .ok (.newarray .int, 2) := by decide +kernel
theorem dX12_init_327 : decode cX12_init 327 = .ok (.putfield 81, 3) := by decide +kernel
theorem dX12_init_330 : decode cX12_init 330 = .ok (.aload_n 0, 1) := by decide +kernel
theorem dX12_init_331 : decode cX12_init 331 = .ok (.bipush 12, 2) := by decide +kernel
theorem dX12_init_333 : decode cX12_init 333 = .ok (.newarray .int, 2) := by decide +kernel
theorem dX12_init_335 : decode cX12_init 335 = .ok (.putfield 84, 3) := by decide +kernel
theorem dX12_init_338 : decode cX12_init 338 = .ok (.aload_n 0, 1) := by decide +kernel
theorem dX12_init_339 : decode cX12_init 339 = .ok (.bipush 80, 2) := by decide +kernel
theorem dX12_init_341 : decode cX12_init 341 = .ok (.newarray .int, 2) := by decide +kernel
theorem dX12_init_343 : decode cX12_init 343 = .ok (.putfield 87, 3) := by decide +kernel
theorem dX12_init_346 : decode cX12_init 346 = .ok (.aload_n 0, 1) := by decide +kernel
theorem dX12_init_347 : decode cX12_init 347 = .ok (.iconst 3, 1) := by decide +kernel
theorem dX12_init_348 : decode cX12_init 348 = .ok (.newarray .boolean, 2) := by decide +kernel
theorem dX12_init_350 : decode cX12_init 350 = .ok (.putfield 90, 3) := by decide +kernel
theorem dX12_init_353 : decode cX12_init 353 = .ok (.aload_n 0, 1) := by decide +kernel
theorem dX12_init_354 : decode cX12_init 354 = .ok (.bipush 87, 2) := by decide +kernel
theorem dX12_init_356 : decode cX12_init 356 = .ok (.newarray .int, 2) := by decide +kernel
theorem dX12_init_358 : decode cX12_init 358 = .ok (.putfield 94, 3) := by decide +kernel
theorem dX12_init_361 : decode cX12_init 361 = .ok (.return_, 1) := by decide +kernel
theorem dX12_thrown_0 : decode cX12_thrown 0 = .ok (.aload_n 0, 1) := by decide +kernel
theorem dX12_thrown_1 : decode cX12_thrown 1 = .ok (.getfield 97, 3) := by decide +kernel
theorem dX12_thrown_4 : decode cX12_thrown 4 = .ok (.ireturn, 1) := by decide +kernel
theorem dX12_refuse_0 : decode cX12_refuse 0 = .ok (.aload_n 0, 1) := by decide +kernel
theorem dX12_refuse_1 : decode cX12_refuse 1 = .ok (.iconst 1, 1) := by decide +kernel
theorem dX12_refuse_2 : decode cX12_refuse 2 = .ok (.putfield 97, 3) := by decide +kernel
theorem dX12_refuse_5 : decode cX12_refuse 5 = .ok (.iconst 0, 1) := by decide +kernel
theorem dX12_refuse_6 : decode cX12_refuse 6 = .ok (.ireturn, 1) := by decide +kernel
theorem dX12_in_0 : decode cX12_in 0 = .ok (.lload_n 0, 1) := by decide +kernel
theorem dX12_in_1 : decode cX12_in 1 = .ok (.lload_n 2, 1) := by decide +kernel
theorem dX12_in_2 : decode cX12_in 2 = .ok (.lcmp, 1) := by decide +kernel
theorem dX12_in_3 : decode cX12_in 3 = .ok (.ifCond .lt 14, 3) := by decide +kernel
theorem dX12_in_6 : decode cX12_in 6 = .ok (.lload_n 0, 1) := by decide +kernel
theorem dX12_in_7 : decode cX12_in 7 = .ok (.lload 4, 2) := by decide +kernel
theorem dX12_in_9 : decode cX12_in 9 = .ok (.lcmp, 1) := by decide +kernel
theorem dX12_in_10 : decode cX12_in 10 = .ok (.ifCond .gt 7, 3) := by decide +kernel
theorem dX12_in_13 : decode cX12_in 13 = .ok (.iconst 1, 1) := by decide +kernel
theorem dX12_in_14 : decode cX12_in 14 = .ok (.goto 4, 3) := by decide +kernel
theorem dX12_in_17 : decode cX12_in 17 = .ok (.iconst 0, 1) := by decide +kernel
theorem dX12_in_18 : decode cX12_in 18 = .ok (.ireturn, 1) := by decide +kernel
theorem dX12_has_0 : decode cX12_has 0 = .ok (.iload_n 0, 1) := by decide +kernel
theorem dX12_has_1 : decode cX12_has 1 = .ok (.iload_n 1, 1) := by decide +kernel
theorem dX12_has_2 : decode cX12_has 2 = .ok (.ishr, 1) := by decide +kernel
theorem dX12_has_3 : decode cX12_has 3 = .ok (.iconst 1, 1) := by decide +kernel
theorem dX12_has_4 : decode cX12_has 4 = .ok (.iand, 1) := by decide +kernel
theorem dX12_has_5 : decode cX12_has 5 = .ok (.iconst 1, 1) := by decide +kernel
theorem dX12_has_6 : decode cX12_has 6 = .ok (.if_icmp .ne 7, 3) := by decide +kernel
theorem dX12_has_9 : decode cX12_has 9 = .ok (.iconst 1, 1) := by decide +kernel
theorem dX12_has_10 : decode cX12_has 10 = .ok (.goto 4, 3) := by decide +kernel
theorem dX12_has_13 : decode cX12_has 13 = .ok (.iconst 0, 1) := by decide +kernel
theorem dX12_has_14 : decode cX12_has 14 = .ok (.ireturn, 1) := by decide +kernel
theorem dX12_flag_0 : decode cX12_flag 0 = .ok (.iload_n 0, 1) := by decide +kernel
theorem dX12_flag_1 : decode cX12_flag 1 = .ok (.ifCond .eq 7, 3) := by decide +kernel
theorem dX12_flag_4 : decode cX12_flag 4 = .ok (.iconst 1, 1) := by decide +kernel
theorem dX12_flag_5 : decode cX12_flag 5 = .ok (.goto 4, 3) := by decide +kernel
theorem dX12_flag_8 : decode cX12_flag 8 = .ok (.iconst 0, 1) := by decide +kernel
theorem dX12_flag_9 : decode cX12_flag 9 = .ok (.ireturn, 1) := by decide +kernel
theorem dX12_common_0 : decode cX12_common 0 = .ok (.lload_n 2, 1) := by decide +kernel
theorem dX12_common_1 : decode cX12_common 1 = .ok (.lconst 0, 1) := by decide +kernel
theorem dX12_common_2 : decode cX12_common 2 = .ok (.lcmp, 1) := by decide +kernel
theorem dX12_common_3 : decode cX12_common 3 = .ok (.ifCond .ne 7, 3) := by decide +kernel
theorem dX12_common_6 : decode cX12_common 6 = .ok (.lload_n 0, 1) := by decide +kernel
theorem dX12_common_7 : decode cX12_common 7 = .ok (.goto 10, 3) := by decide +kernel
theorem dX12_common_10 : decode cX12_common 10 = .ok (.lload_n 2, 1) := by decide +kernel
theorem dX12_common_11 : decode cX12_common 11 = .ok (.lload_n 0, 1) := by decide +kernel
theorem dX12_common_12 : decode cX12_common 12 = .ok (.lload_n 2, 1) := by decide +kernel
theorem dX12_common_13 : decode cX12_common 13 = .ok (.lrem, 1) := by decide +kernel
theorem dX12_common_14 : decode cX12_common 14 = .ok (.invokestatic 100, 3) := by decide +kernel
theorem dX12_common_17 : decode cX12_common 17 = .ok (.lreturn, 1) := by decide +kernel
theorem dX12_enters_0 : decode cX12_enters 0 = .ok (.aload_n 0, 1) := by decide +kernel
theorem dX12_enters_1 : decode cX12_enters 1 = .ok (.getfield 9, 3) := by decide +kernel
theorem dX12_enters_4 : decode cX12_enters 4 = .ok (.aload_n 0, 1) := by decide +kernel
theorem dX12_enters_5 : decode cX12_enters 5 = .ok (.getfield 104, 3) := by decide +kernel
theorem dX12_enters_8 : decode cX12_enters 8 = .ok (.lload_n 1, 1) := by decide +kernel
theorem dX12_enters_9 : decode cX12_enters 9 = .ok (.lastore, 1) := by decide +kernel
theorem dX12_enters_10 : decode cX12_enters 10 = .ok (.aload_n 0, 1) := by decide +kernel
theorem dX12_enters_11 : decode cX12_enters 11 = .ok (.dup, 1) := by decide +kernel
theorem dX12_enters_12 : decode cX12_enters 12 = .ok (.getfield 104, 3) := by decide +kernel
theorem dX12_enters_15 : decode cX12_enters 15 = .ok (.iconst 1, 1) := by decide +kernel
theorem dX12_enters_16 : decode cX12_enters 16 = .ok (.iadd, 1) := by decide +kernel
theorem dX12_enters_17 : decode cX12_enters 17 = .ok (.putfield 104, 3) := by decide +kernel
theorem dX12_enters_20 : decode cX12_enters 20 = .ok (.return_, 1) := by decide +kernel
theorem dX12_isMile_0 : decode cX12_isMile 0 = .ok (.iload_n 1, 1) := by decide +kernel
theorem dX12_isMile_1 : decode cX12_isMile 1 = .ok (.i2l, 1) := by decide +kernel
theorem dX12_isMile_2 : decode cX12_isMile 2 = .ok (.lconst 0, 1) := by decide +kernel
theorem dX12_isMile_3 : decode cX12_isMile 3 = .ok (.aload_n 0, 1) := by decide +kernel
theorem dX12_isMile_4 : decode cX12_isMile 4 = .ok (.getfield 13, 3) := by decide +kernel
theorem dX12_isMile_7 : decode cX12_isMile 7 = .ok (.iconst 1, 1) := by decide +kernel
theorem dX12_isMile_8 : decode cX12_isMile 8 = .ok (.isub, 1) := by decide +kernel
theorem dX12_isMile_9 : decode cX12_isMile 9 = .ok (.i2l, 1) := by decide +kernel
theorem dX12_isMile_10 : decode cX12_isMile 10 = .ok (.invokestatic 107, 3) := by decide +kernel
theorem dX12_isMile_13 : decode cX12_isMile 13 = .ok (.ireturn, 1) := by decide +kernel
theorem dX12_isCarrier_0 : decode cX12_isCarrier 0 = .ok (.iload_n 1, 1) := by decide +kernel
theorem dX12_isCarrier_1 : decode cX12_isCarrier 1 = .ok (.i2l, 1) := by decide +kernel
theorem dX12_isCarrier_2 : decode cX12_isCarrier 2 = .ok (.lconst 0, 1) := by decide +kernel
theorem dX12_isCarrier_3 : decode cX12_isCarrier 3 = .ok (.aload_n 0, 1) := by decide +kernel
theorem dX12_isCarrier_4 : decode cX12_isCarrier 4 = .ok (.getfield 111, 3) := by decide +kernel
theorem dX12_isCarrier_7 : decode cX12_isCarrier 7 = .ok (.iconst 1, 1) := by decide +kernel
theorem dX12_isCarrier_8 : decode cX12_isCarrier 8 = .ok (.isub, 1) := by decide +kernel
theorem dX12_isCarrier_9 : decode cX12_isCarrier 9 = .ok (.i2l, 1) := by decide +kernel
theorem dX12_isCarrier_10 : decode cX12_isCarrier 10 = .ok (.invokestatic 107, 3) := by decide +kernel
theorem dX12_isCarrier_13 : decode cX12_isCarrier 13 = .ok (.ireturn, 1) := by decide +kernel
theorem dX12_isGate_0 : decode cX12_isGate 0 = .ok (.aload_n 1, 1) := by decide +kernel
theorem dX12_isGate_1 : decode cX12_isGate 1 = .ok (.bipush 24, 2) := by decide +kernel
theorem dX12_isGate_3 : decode cX12_isGate 3 = .ok (.iaload, 1) := by decide +kernel
theorem dX12_isGate_4 : decode cX12_isGate 4 = .ok (.iload_n 2, 1) := by decide +kernel
theorem dX12_isGate_5 : decode cX12_isGate 5 = .ok (.invokestatic 114, 3) := by decide +kernel
theorem dX12_isGate_8 : decode cX12_isGate 8 = .ok (.ireturn, 1) := by decide +kernel
theorem dX12_allMen_0 : decode cX12_allMen 0 = .ok (.iconst 0, 1) := by decide +kernel
theorem dX12_allMen_1 : decode cX12_allMen 1 = .ok (.istore_n 2, 1) := by decide +kernel
theorem dX12_allMen_2 : decode cX12_allMen 2 = .ok (.iconst 0, 1) := by decide +kernel
theorem dX12_allMen_3 : decode cX12_allMen 3 = .ok (.istore_n 3, 1) := by decide +kernel
theorem dX12_allMen_4 : decode cX12_allMen 4 = .ok (.iload_n 3, 1) := by decide +kernel
theorem dX12_allMen_5 : decode cX12_allMen 5 = .ok (.aload_n 0, 1) := by decide +kernel
theorem dX12_allMen_6 : decode cX12_allMen 6 = .ok (.getfield 13, 3) := by decide +kernel
theorem dX12_allMen_9 : decode cX12_allMen 9 = .ok (.if_icmp .ge 18, 3) := by decide +kernel
theorem dX12_allMen_12 : decode cX12_allMen 12 = .ok (.iload_n 2, 1) := by decide +kernel
theorem dX12_allMen_13 : decode cX12_allMen 13 = .ok (.aload_n 1, 1) := by decide +kernel
theorem dX12_allMen_14 : decode cX12_allMen 14 = .ok (.bipush 12, 2) := by decide +kernel
theorem dX12_allMen_16 : decode cX12_allMen 16 = .ok (.iload_n 3, 1) := by decide +kernel
theorem dX12_allMen_17 : decode cX12_allMen 17 = .ok (.iadd, 1) := by decide +kernel
theorem dX12_allMen_18 : decode cX12_allMen 18 = .ok (.iaload, 1) := by decide +kernel
theorem dX12_allMen_19 : decode cX12_allMen 19 = .ok (.iadd, 1) := by decide +kernel
theorem dX12_allMen_20 : decode cX12_allMen 20 = .ok (.istore_n 2, 1) := by decide +kernel
theorem dX12_allMen_21 : decode cX12_allMen 21 = .ok (.iinc 3 1, 3) := by decide +kernel
theorem dX12_allMen_24 : decode cX12_allMen 24 = .ok (.goto (-20), 3) := by decide +kernel
theorem dX12_allMen_27 : decode cX12_allMen 27 = .ok (.iload_n 2, 1) := by decide +kernel
theorem dX12_allMen_28 : decode cX12_allMen 28 = .ok (.ireturn, 1) := by decide +kernel
theorem dX12_allHedge_0 : decode cX12_allHedge 0 = .ok (.iconst 0, 1) := by decide +kernel
theorem dX12_allHedge_1 : decode cX12_allHedge 1 = .ok (.istore_n 2, 1) := by decide +kernel
theorem dX12_allHedge_2 : decode cX12_allHedge 2 = .ok (.iconst 0, 1) := by decide +kernel
theorem dX12_allHedge_3 : decode cX12_allHedge 3 = .ok (.istore_n 3, 1) := by decide +kernel
theorem dX12_allHedge_4 : decode cX12_allHedge 4 = .ok (.iload_n 3, 1) := by decide +kernel
theorem dX12_allHedge_5 : decode cX12_allHedge 5 = .ok (.aload_n 0, 1) := by decide +kernel
theorem dX12_allHedge_6 : decode cX12_allHedge 6 = .ok (.getfield 13, 3) := by decide +kernel
theorem dX12_allHedge_9 : decode cX12_allHedge 9 = .ok (.if_icmp .ge 15, 3) := by decide +kernel
theorem dX12_allHedge_12 : decode cX12_allHedge 12 = .ok (.iload_n 2, 1) := by decide +kernel
theorem dX12_allHedge_13 : decode cX12_allHedge 13 = .ok (.aload_n 1, 1) := by decide +kernel
theorem dX12_allHedge_14 : decode cX12_allHedge 14 = .ok (.iload_n 3, 1) := by decide +kernel
theorem dX12_allHedge_15 : decode cX12_allHedge 15 = .ok (.iaload, 1) := by decide +kernel
theorem dX12_allHedge_16 : decode cX12_allHedge 16 = .ok (.iadd, 1) := by decide +kernel
theorem dX12_allHedge_17 : decode cX12_allHedge 17 = .ok (.istore_n 2, 1) := by decide +kernel
theorem dX12_allHedge_18 : decode cX12_allHedge 18 = .ok (.iinc 3 1, 3) := by decide +kernel
theorem dX12_allHedge_21 : decode cX12_allHedge 21 = .ok (.goto (-17), 3) := by decide +kernel
theorem dX12_allHedge_24 : decode cX12_allHedge 24 = .ok (.iload_n 2, 1) := by decide +kernel
theorem dX12_allHedge_25 : decode cX12_allHedge 25 = .ok (.ireturn, 1) := by decide +kernel
theorem dX12_sign_0 : decode cX12_sign 0 = .ok (.aload_n 0, 1) := by decide +kernel
theorem dX12_sign_1 : decode cX12_sign 1 = .ok (.iconst 0, 1) := by decide +kernel
theorem dX12_sign_2 : decode cX12_sign 2 = .ok (.putfield 97, 3) := by decide +kernel
theorem dX12_sign_5 : decode cX12_sign 5 = .ok (.aload_n 0, 1) := by decide +kernel
theorem dX12_sign_6 : decode cX12_sign 6 = .ok (.getfield 118, 3) := by decide +kernel
theorem dX12_sign_9 : decode cX12_sign 9 = .ok (.bipush 76, 2) := by decide +kernel
theorem dX12_sign_11 : decode cX12_sign 11 = .ok (.if_icmp .le 5, 3) := by decide +kernel
theorem dX12_sign_14 : decode cX12_sign 14 = .ok (.iconst (-1), 1) := by decide +kernel
theorem dX12_sign_15 : decode cX12_sign 15 = .ok (.ireturn, 1) := by decide +kernel
theorem dX12_sign_16 : decode cX12_sign 16 = .ok (.iconst 0, 1) := by decide +kernel
theorem dX12_sign_17 : decode cX12_sign 17 = .ok (.istore_n 2, 1) := by decide +kernel
theorem dX12_sign_18 : decode cX12_sign 18 = .ok (.iload_n 2, 1) := by decide +kernel
theorem dX12_sign_19 : decode cX12_sign 19 = .ok (.iconst 4, 1) := by decide +kernel
theorem dX12_sign_20 : decode cX12_sign 20 = .ok (.if_icmp .ge 33, 3) := by decide +kernel
theorem dX12_sign_23 : decode cX12_sign 23 = .ok (.aload_n 0, 1) := by decide +kernel
theorem dX12_sign_24 : decode cX12_sign 24 = .ok (.getfield 42, 3) := by decide +kernel
theorem dX12_sign_27 : decode cX12_sign 27 = .ok (.aload_n 0, 1) := by decide +kernel
theorem dX12_sign_28 : decode cX12_sign 28 = .ok (.getfield 118, 3) := by decide +kernel
theorem dX12_sign_31 : decode cX12_sign 31 = .ok (.iload_n 2, 1) := by decide +kernel
theorem dX12_sign_32 : decode cX12_sign 32 = .ok (.iadd, 1) := by decide +kernel
theorem dX12_sign_33 : decode cX12_sign 33 = .ok (.iload_n 1, 1) := by decide +kernel
theorem dX12_sign_34 : decode cX12_sign 34 = .ok (.bipush 24, 2) := by decide +kernel
theorem dX12_sign_36 : decode cX12_sign 36 = .ok (.bipush 8, 2) := by decide +kernel
theorem dX12_sign_38 : decode cX12_sign 38 = .ok (.iload_n 2, 1) := by decide +kernel
theorem dX12_sign_39 : decode cX12_sign 39 = .ok (.imul, 1) := by decide +kernel
theorem dX12_sign_40 : decode cX12_sign 40 = .ok (.isub, 1) := by decide +kernel
theorem dX12_sign_41 : decode cX12_sign 41 = .ok (.ishr, 1) := by decide +kernel
theorem dX12_sign_42 : decode cX12_sign 42 = .ok (.sipush 255, 3) := by decide +kernel
theorem dX12_sign_45 : decode cX12_sign 45 = .ok (.iand, 1) := by decide +kernel
theorem dX12_sign_46 : decode cX12_sign 46 = .ok (.iastore, 1) := by decide +kernel
theorem dX12_sign_47 : decode cX12_sign 47 = .ok (.iinc 2 1, 3) := by decide +kernel
theorem dX12_sign_50 : decode cX12_sign 50 = .ok (.goto (-32), 3) := by decide +kernel
theorem dX12_sign_53 : decode cX12_sign 53 = .ok (.aload_n 0, 1) := by decide +kernel
theorem dX12_sign_54 : decode cX12_sign 54 = .ok (.dup, 1) := by decide +kernel
theorem dX12_sign_55 : decode cX12_sign 55 = .ok (.getfield 118, 3) := by decide +kernel
theorem dX12_sign_58 : decode cX12_sign 58 = .ok (.iconst 4, 1) := by decide +kernel
theorem dX12_sign_59 : decode cX12_sign 59 = .ok (.iadd, 1) := by decide +kernel
theorem dX12_sign_60 : decode cX12_sign 60 = .ok (.putfield 118, 3) := by decide +kernel
theorem dX12_sign_63 : decode cX12_sign 63 = .ok (.aload_n 0, 1) := by decide +kernel
theorem dX12_sign_64 : decode cX12_sign 64 = .ok (.getfield 118, 3) := by decide +kernel
theorem dX12_sign_67 : decode cX12_sign 67 = .ok (.ireturn, 1) := by decide +kernel
theorem dX12_end_0 : decode cX12_end 0 = .ok (.aload_n 0, 1) := by decide +kernel
theorem dX12_end_1 : decode cX12_end 1 = .ok (.iconst 0, 1) := by decide +kernel
theorem dX12_end_2 : decode cX12_end 2 = .ok (.putfield 97, 3) := by decide +kernel
theorem dX12_end_5 : decode cX12_end 5 = .ok (.iload_n 1, 1) := by decide +kernel
theorem dX12_end_6 : decode cX12_end 6 = .ok (.i2l, 1) := by decide +kernel
theorem dX12_end_7 : decode cX12_end 7 = .ok (.lconst 0, 1) := by decide +kernel
theorem dX12_end_8 : decode cX12_end 8 = .ok (.aload_n 0, 1) := by decide +kernel
theorem dX12_end_9 : decode cX12_end 9 = .ok (.getfield 118, 3) := by decide +kernel
theorem dX12_end_12 : decode cX12_end 12 = .ok (.i2l, 1) := by decide +kernel
theorem dX12_end_13 : decode cX12_end 13 = .ok (.invokestatic 107, 3) := by decide +kernel
theorem dX12_end_16 : decode cX12_end 16 = .ok (.ifCond .ne 5, 3) := by decide +kernel
theorem dX12_end_19 : decode cX12_end 19 = .ok (.iconst 0, 1) := by decide +kernel
theorem dX12_end_20 : decode cX12_end 20 = .ok (.ireturn, 1) := by decide +kernel
theorem dX12_end_21 : decode cX12_end 21 = .ok (.aload_n 0, 1) := by decide +kernel
theorem dX12_end_22 : decode cX12_end 22 = .ok (.iload_n 1, 1) := by decide +kernel
theorem dX12_end_23 : decode cX12_end 23 = .ok (.putfield 118, 3) := by decide +kernel
theorem dX12_end_26 : decode cX12_end 26 = .ok (.iconst 1, 1) := by decide +kernel
theorem dX12_end_27 : decode cX12_end 27 = .ok (.ireturn, 1) := by decide +kernel
theorem dX12_begins_0 : decode cX12_begins 0 = .ok (.aload_n 0, 1) := by decide +kernel
theorem dX12_begins_1 : decode cX12_begins 1 = .ok (.getfield 118, 3) := by decide +kernel
theorem dX12_begins_4 : decode cX12_begins 4 = .ok (.istore_n 2, 1) := by decide +kernel
theorem dX12_begins_5 : decode cX12_begins 5 = .ok (.aload_n 0, 1) := by decide +kernel
theorem dX12_begins_6 : decode cX12_begins 6 = .ok (.iconst 0, 1) := by decide +kernel
theorem dX12_begins_7 : decode cX12_begins 7 = .ok (.putfield 118, 3) := by decide +kernel
theorem dX12_begins_10 : decode cX12_begins 10 = .ok (.aload_n 0, 1) := by decide +kernel
theorem dX12_begins_11 : decode cX12_begins 11 = .ok (.iconst 0, 1) := by decide +kernel
theorem dX12_begins_12 : decode cX12_begins 12 = .ok (.putfield 121, 3) := by decide +kernel
theorem dX12_begins_15 : decode cX12_begins 15 = .ok (.aload_n 0, 1) := by decide +kernel
theorem dX12_begins_16 : decode cX12_begins 16 = .ok (.iconst 0, 1) := by decide +kernel
theorem dX12_begins_17 : decode cX12_begins 17 = .ok (.putfield 124, 3) := by decide +kernel
theorem dX12_begins_20 : decode cX12_begins 20 = .ok (.aload_n 0, 1) := by decide +kernel
theorem dX12_begins_21 : decode cX12_begins 21 = .ok (.iload_n 2, 1) := by decide +kernel
theorem dX12_begins_22 : decode cX12_begins 22 = .ok (.iload_n 1, 1) := by decide +kernel
theorem dX12_begins_23 : decode cX12_begins 23 = .ok (.invokestatic 127, 3) := by decide +kernel
theorem dX12_begins_26 : decode cX12_begins 26 = .ok (.putfield 133, 3) := by decide +kernel
theorem dX12_begins_29 : decode cX12_begins 29 = .ok (.iload_n 2, 1) := by decide +kernel
theorem dX12_begins_30 : decode cX12_begins 30 = .ok (.ireturn, 1) := by decide +kernel
theorem dX12_takes_0 : decode cX12_takes 0 = .ok (.aload_n 0, 1) := by decide +kernel
theorem dX12_takes_1 : decode cX12_takes 1 = .ok (.getfield 121, 3) := by decide +kernel
theorem dX12_takes_4 : decode cX12_takes 4 = .ok (.aload_n 0, 1) := by decide +kernel
theorem dX12_takes_5 : decode cX12_takes 5 = .ok (.getfield 133, 3) := by decide +kernel
theorem dX12_takes_8 : decode cX12_takes 8 = .ok (.if_icmp .ge 20, 3) := by decide +kernel
theorem dX12_takes_11 : decode cX12_takes 11 = .ok (.aload_n 0, 1) := by decide +kernel
theorem dX12_takes_12 : decode cX12_takes 12 = .ok (.getfield 42, 3) := by decide +kernel
theorem dX12_takes_15 : decode cX12_takes 15 = .ok (.aload_n 0, 1) := by decide +kernel
theorem dX12_takes_16 : decode cX12_takes 16 = .ok (.getfield 121, 3) := by decide +kernel
theorem dX12_takes_19 : decode cX12_takes 19 = .ok (.iaload, 1) := by decide +kernel
theorem dX12_takes_20 : decode cX12_takes 20 = .ok (.iload_n 1, 1) := by decide +kernel
theorem dX12_takes_21 : decode cX12_takes 21 = .ok (.if_icmp .ne 7, 3) := by decide +kernel
theorem dX12_takes_24 : decode cX12_takes 24 = .ok (.iconst 1, 1) := by decide +kernel
theorem dX12_takes_25 : decode cX12_takes 25 = .ok (.goto 4, 3) := by decide +kernel
theorem dX12_takes_28 : decode cX12_takes 28 = .ok (.iconst 0, 1) := by decide +kernel
theorem dX12_takes_29 : decode cX12_takes 29 = .ok (.istore_n 2, 1) := by decide +kernel
theorem dX12_takes_30 : decode cX12_takes 30 = .ok (.aload_n 0, 1) := by decide +kernel
theorem dX12_takes_31 : decode cX12_takes 31 = .ok (.dup, 1) := by decide +kernel
theorem dX12_takes_32 : decode cX12_takes 32 = .ok (.getfield 121, 3) := by decide +kernel
theorem dX12_takes_35 : decode cX12_takes 35 = .ok (.iload_n 2, 1) := by decide +kernel
theorem dX12_takes_36 : decode cX12_takes 36 = .ok (.invokestatic 136, 3) := by decide +kernel
theorem dX12_takes_39 : decode cX12_takes 39 = .ok (.iadd, 1) := by decide +kernel
theorem dX12_takes_40 : decode cX12_takes 40 = .ok (.putfield 121, 3) := by decide +kernel
theorem dX12_takes_43 : decode cX12_takes 43 = .ok (.iload_n 2, 1) := by decide +kernel
theorem dX12_takes_44 : decode cX12_takes 44 = .ok (.ireturn, 1) := by decide +kernel
theorem dX12_isDigit_0 : decode cX12_isDigit 0 = .ok (.aload_n 0, 1) := by decide +kernel
theorem dX12_isDigit_1 : decode cX12_isDigit 1 = .ok (.getfield 121, 3) := by decide +kernel
theorem dX12_isDigit_4 : decode cX12_isDigit 4 = .ok (.aload_n 0, 1) := by decide +kernel
theorem dX12_isDigit_5 : decode cX12_isDigit 5 = .ok (.getfield 133, 3) := by decide +kernel
theorem dX12_isDigit_8 : decode cX12_isDigit 8 = .ok (.if_icmp .ge 29, 3) := by decide +kernel
theorem dX12_isDigit_11 : decode cX12_isDigit 11 = .ok (.aload_n 0, 1) := by decide +kernel
theorem dX12_isDigit_12 : decode cX12_isDigit 12 = .ok (.getfield 42, 3) := by decide +kernel
theorem dX12_isDigit_15 : decode cX12_isDigit 15 = .ok (.aload_n 0, 1) := by decide +kernel
theorem dX12_isDigit_16 : decode cX12_isDigit 16 = .ok (.getfield 121, 3) := by decide +kernel
theorem dX12_isDigit_19 : decode cX12_isDigit 19 = .ok (.iaload, 1) := by decide +kernel
theorem dX12_isDigit_20 : decode cX12_isDigit 20 = .ok (.i2l, 1) := by decide +kernel
theorem dX12_isDigit_21 : decode cX12_isDigit 21 = .ok (.ldc2_w 140, 3) := by decide +kernel
theorem dX12_isDigit_24 : decode cX12_isDigit 24 = .ok (.ldc2_w 142, 3) := by decide +kernel
theorem dX12_isDigit_27 : decode cX12_isDigit 27 = .ok (.invokestatic 107, 3) := by decide +kernel
theorem dX12_isDigit_30 : decode cX12_isDigit 30 = .ok (.ifCond .eq 7, 3) := by decide +kernel
theorem dX12_isDigit_33 : decode cX12_isDigit 33 = .ok (.iconst 1, 1) := by decide +kernel
theorem dX12_isDigit_34 : decode cX12_isDigit 34 = .ok (.goto 4, 3) := by decide +kernel
theorem dX12_isDigit_37 : decode cX12_isDigit 37 = .ok (.iconst 0, 1) := by decide +kernel
theorem dX12_isDigit_38 : decode cX12_isDigit 38 = .ok (.ireturn, 1) := by decide +kernel
theorem dX12_among_0 : decode cX12_among 0 = .ok (.iconst 0, 1) := by decide +kernel
theorem dX12_among_1 : decode cX12_among 1 = .ok (.istore_n 2, 1) := by decide +kernel
theorem dX12_among_2 : decode cX12_among 2 = .ok (.iload_n 2, 1) := by decide +kernel
theorem dX12_among_3 : decode cX12_among 3 = .ok (.aload_n 1, 1) := by decide +kernel
theorem dX12_among_4 : decode cX12_among 4 = .ok (.invokevirtual 144, 3) := by decide +kernel
theorem dX12_among_7 : decode cX12_among 7 = .ok (.if_icmp .ge 39, 3) := by decide +kernel
theorem dX12_among_10 : decode cX12_among 10 = .ok (.aload_n 0, 1) := by decide +kernel
theorem dX12_among_11 : decode cX12_among 11 = .ok (.getfield 121, 3) := by decide +kernel
theorem dX12_among_14 : decode cX12_among 14 = .ok (.aload_n 0, 1) := by decide +kernel
theorem dX12_among_15 : decode cX12_among 15 = .ok (.getfield 133, 3) := by decide +kernel
theorem dX12_among_18 : decode cX12_among 18 = .ok (.if_icmp .ge 28, 3) := by decide +kernel
theorem dX12_among_21 : decode cX12_among 21 = .ok (.aload_n 1, 1) := by decide +kernel
theorem dX12_among_22 : decode cX12_among 22 = .ok (.iload_n 2, 1) := by decide +kernel
theorem dX12_among_23 : decode cX12_among 23 = .ok (.invokevirtual 150, 3) := by decide +kernel
theorem dX12_among_26 : decode cX12_among 26 = .ok (.aload_n 0, 1) := by decide +kernel
theorem dX12_among_27 : decode cX12_among 27 = .ok (.getfield 42, 3) := by decide +kernel
theorem dX12_among_30 : decode cX12_among 30 = .ok (.aload_n 0, 1) := by decide +kernel
theorem dX12_among_31 : decode cX12_among 31 = .ok (.getfield 121, 3) := by decide +kernel
theorem dX12_among_34 : decode cX12_among 34 = .ok (.iaload, 1) := by decide +kernel
theorem dX12_among_35 : decode cX12_among 35 = .ok (.if_icmp .ne 5, 3) := by decide +kernel
theorem dX12_among_38 : decode cX12_among 38 = .ok (.iload_n 2, 1) := by decide +kernel
theorem dX12_among_39 : decode cX12_among 39 = .ok (.ireturn, 1) := by decide +kernel
theorem dX12_among_40 : decode cX12_among 40 = .ok (.iinc 2 1, 3) := by decide +kernel
theorem dX12_among_43 : decode cX12_among 43 = .ok (.goto (-41), 3) := by decide +kernel
theorem dX12_among_46 : decode cX12_among 46 = .ok (.iconst (-1), 1) := by decide +kernel
theorem dX12_among_47 : decode cX12_among 47 = .ok (.ireturn, 1) := by decide +kernel
theorem dX12_takesOf_0 : decode cX12_takesOf 0 = .ok (.aload_n 0, 1) := by decide +kernel
theorem dX12_takesOf_1 : decode cX12_takesOf 1 = .ok (.aload_n 1, 1) := by decide +kernel
theorem dX12_takesOf_2 : decode cX12_takesOf 2 = .ok (.invokevirtual 154, 3) := by decide +kernel
theorem dX12_takesOf_5 : decode cX12_takesOf 5 = .ok (.istore_n 2, 1) := by decide +kernel
theorem dX12_takesOf_6 : decode cX12_takesOf 6 = .ok (.aload_n 0, 1) := by decide +kernel
theorem dX12_takesOf_7 : decode cX12_takesOf 7 = .ok (.dup, 1) := by decide +kernel
theorem dX12_takesOf_8 : decode cX12_takesOf 8 = .ok (.getfield 121, 3) := by decide +kernel
theorem dX12_takesOf_11 : decode cX12_takesOf 11 = .ok (.iload_n 2, 1) := by decide +kernel
theorem dX12_takesOf_12 : decode cX12_takesOf 12 = .ok (.ifCond .lt 7, 3) := by decide +kernel
theorem dX12_takesOf_15 : decode cX12_takesOf 15 = .ok (.iconst 1, 1) := by decide +kernel
theorem dX12_takesOf_16 : decode cX12_takesOf 16 = .ok (.goto 4, 3) := by decide +kernel
theorem dX12_takesOf_19 : decode cX12_takesOf 19 = .ok (.iconst 0, 1) := by decide +kernel
theorem dX12_takesOf_20 : decode cX12_takesOf 20 = .ok (.invokestatic 136, 3) := by decide +kernel
theorem dX12_takesOf_23 : decode cX12_takesOf 23 = .ok (.iadd, 1) := by decide +kernel
theorem dX12_takesOf_24 : decode cX12_takesOf 24 = .ok (.putfield 121, 3) := by decide +kernel
theorem dX12_takesOf_27 : decode cX12_takesOf 27 = .ok (.iload_n 2, 1) := by decide +kernel
theorem dX12_takesOf_28 : decode cX12_takesOf 28 = .ok (.ireturn, 1) := by decide +kernel
theorem dX12_number_0 : decode cX12_number 0 = .ok (.aload_n 0, 1) := by decide +kernel
theorem dX12_number_1 : decode cX12_number 1 = .ok (.invokevirtual 158, 3) := by decide +kernel
theorem dX12_number_4 : decode cX12_number 4 = .ok (.ifCond .ne 5, 3) := by decide +kernel
theorem dX12_number_7 : decode cX12_number 7 = .ok (.iconst (-1), 1) := by decide +kernel
theorem dX12_number_8 : decode cX12_number 8 = .ok (.ireturn, 1) := by decide +kernel
theorem dX12_number_9 : decode cX12_number 9 = .ok (.iconst 0, 1) := by decide +kernel
theorem dX12_number_10 : decode cX12_number 10 = .ok (.istore_n 2, 1) := by decide +kernel
theorem dX12_number_11 : decode cX12_number 11 = .ok (.iconst 0, 1) := by decide +kernel
theorem dX12_number_12 : decode cX12_number 12 = .ok (.istore_n 3, 1) := by decide +kernel
theorem dX12_number_13 : decode cX12_number 13 = .ok (.iload_n 3, 1) := by decide +kernel
theorem dX12_number_14 : decode cX12_number 14 = .ok (.iload_n 1, 1) := by decide +kernel
theorem dX12_number_15 : decode cX12_number 15 = .ok (.if_icmp .ge 44, 3) := by decide +kernel
theorem dX12_number_18 : decode cX12_number 18 = .ok (.aload_n 0, 1) := by decide +kernel
theorem dX12_number_19 : decode cX12_number 19 = .ok (.invokevirtual 158, 3) := by decide +kernel
theorem dX12_number_22 : decode cX12_number 22 = .ok (.ifCond .eq 37, 3) := by decide +kernel
theorem dX12_number_25 : decode cX12_number 25 = .ok (.bipush 10, 2) := by decide +kernel
theorem dX12_number_27 : decode cX12_number 27 = .ok (.iload_n 2, 1) := by decide +kernel
theorem dX12_number_28 : decode cX12_number 28 = .ok (.imul, 1) := by decide +kernel
theorem dX12_number_29 : decode cX12_number 29 = .ok (.aload_n 0, 1) := by decide +kernel
theorem dX12_number_30 : decode cX12_number 30 = .ok (.getfield 42, 3) := by decide +kernel
theorem dX12_number_33 : decode cX12_number 33 = .ok (.aload_n 0, 1) := by decide +kernel
theorem dX12_number_34 : decode cX12_number 34 = .ok (.getfield 121, 3) := by decide +kernel
theorem dX12_number_37 : decode cX12_number 37 = .ok (.iaload, 1) := by decide +kernel
theorem dX12_number_38 : decode cX12_number 38 = .ok (.iadd, 1) := by decide +kernel
theorem dX12_number_39 : decode cX12_number 39 = .ok (.bipush 48, 2) := by decide +kernel
theorem dX12_number_41 : decode cX12_number 41 = .ok (.isub, 1) := by decide +kernel
theorem dX12_number_42 : decode cX12_number 42 = .ok (.istore_n 2, 1) := by decide +kernel
theorem dX12_number_43 : decode cX12_number 43 = .ok (.aload_n 0, 1) := by decide +kernel
theorem dX12_number_44 : decode cX12_number 44 = .ok (.dup, 1) := by decide +kernel
theorem dX12_number_45 : decode cX12_number 45 = .ok (.getfield 121, 3) := by decide +kernel
theorem dX12_number_48 : decode cX12_number 48 = .ok (.iconst 1, 1) := by decide +kernel
theorem dX12_number_49 : decode cX12_number 49 = .ok (.iadd, 1) := by decide +kernel
theorem dX12_number_50 : decode cX12_number 50 = .ok (.putfield 121, 3) := by decide +kernel
theorem dX12_number_53 : decode cX12_number 53 = .ok (.iinc 3 1, 3) := by decide +kernel
theorem dX12_number_56 : decode cX12_number 56 = .ok (.goto (-43), 3) := by decide +kernel
theorem dX12_number_59 : decode cX12_number 59 = .ok (.iload_n 2, 1) := by decide +kernel
theorem dX12_number_60 : decode cX12_number 60 = .ok (.ireturn, 1) := by decide +kernel
theorem dX12_digitIn_0 : decode cX12_digitIn 0 = .ok (.aload_n 0, 1) := by decide +kernel
theorem dX12_digitIn_1 : decode cX12_digitIn 1 = .ok (.getfield 121, 3) := by decide +kernel
theorem dX12_digitIn_4 : decode cX12_digitIn 4 = .ok (.aload_n 0, 1) := by decide +kernel
theorem dX12_digitIn_5 : decode cX12_digitIn 5 = .ok (.getfield 133, 3) := by decide +kernel
theorem dX12_digitIn_8 : decode cX12_digitIn 8 = .ok (.if_icmp .ge 26, 3) := by decide +kernel
theorem dX12_digitIn_11 : decode cX12_digitIn 11 = .ok (.aload_n 0, 1) := by decide +kernel
theorem dX12_digitIn_12 : decode cX12_digitIn 12 = .ok (.getfield 42, 3) := by decide +kernel
theorem dX12_digitIn_15 : decode cX12_digitIn 15 = .ok (.aload_n 0, 1) := by decide +kernel
theorem dX12_digitIn_16 : decode cX12_digitIn 16 = .ok (.getfield 121, 3) := by decide +kernel
theorem dX12_digitIn_19 : decode cX12_digitIn 19 = .ok (.iaload, 1) := by decide +kernel
theorem dX12_digitIn_20 : decode cX12_digitIn 20 = .ok (.bipush 48, 2) := by decide +kernel
theorem dX12_digitIn_22 : decode cX12_digitIn 22 = .ok (.isub, 1) := by decide +kernel
theorem dX12_digitIn_23 : decode cX12_digitIn 23 = .ok (.i2l, 1) := by decide +kernel
theorem dX12_digitIn_24 : decode cX12_digitIn 24 = .ok (.iload_n 1, 1) := by decide +kernel
theorem dX12_digitIn_25 : decode cX12_digitIn 25 = .ok (.i2l, 1) := by decide +kernel
theorem dX12_digitIn_26 : decode cX12_digitIn 26 = .ok (.iload_n 2, 1) := by decide +kernel
theorem dX12_digitIn_27 : decode cX12_digitIn 27 = .ok (.i2l, 1) := by decide +kernel
theorem dX12_digitIn_28 : decode cX12_digitIn 28 = .ok (.invokestatic 107, 3) := by decide +kernel
theorem dX12_digitIn_31 : decode cX12_digitIn 31 = .ok (.ifCond .ne 5, 3) := by decide +kernel
theorem dX12_digitIn_34 : decode cX12_digitIn 34 = .ok (.iconst (-1), 1) := by decide +kernel
theorem dX12_digitIn_35 : decode cX12_digitIn 35 = .ok (.ireturn, 1) := by decide +kernel
theorem dX12_digitIn_36 : decode cX12_digitIn 36 = .ok (.aload_n 0, 1) := by decide +kernel
theorem dX12_digitIn_37 : decode cX12_digitIn 37 = .ok (.dup, 1) := by decide +kernel
theorem dX12_digitIn_38 : decode cX12_digitIn 38 = .ok (.getfield 121, 3) := by decide +kernel
theorem dX12_digitIn_41 : decode cX12_digitIn 41 = .ok (.iconst 1, 1) := by decide +kernel
theorem dX12_digitIn_42 : decode cX12_digitIn 42 = .ok (.iadd, 1) := by decide +kernel
theorem dX12_digitIn_43 : decode cX12_digitIn 43 = .ok (.putfield 121, 3) := by decide +kernel
theorem dX12_digitIn_46 : decode cX12_digitIn 46 = .ok (.aload_n 0, 1) := by decide +kernel
theorem dX12_digitIn_47 : decode cX12_digitIn 47 = .ok (.getfield 42, 3) := by decide +kernel
theorem dX12_digitIn_50 : decode cX12_digitIn 50 = .ok (.aload_n 0, 1) := by decide +kernel
theorem dX12_digitIn_51 : decode cX12_digitIn 51 = .ok (.getfield 121, 3) := by decide +kernel
theorem dX12_digitIn_54 : decode cX12_digitIn 54 = .ok (.iconst 1, 1) := by decide +kernel
theorem dX12_digitIn_55 : decode cX12_digitIn 55 = .ok (.isub, 1) := by decide +kernel
theorem dX12_digitIn_56 : decode cX12_digitIn 56 = .ok (.iaload, 1) := by decide +kernel
theorem dX12_digitIn_57 : decode cX12_digitIn 57 = .ok (.bipush 48, 2) := by decide +kernel
theorem dX12_digitIn_59 : decode cX12_digitIn 59 = .ok (.isub, 1) := by decide +kernel
theorem dX12_digitIn_60 : decode cX12_digitIn 60 = .ok (.ireturn, 1) := by decide +kernel
theorem dX12_twoDigits_0 : decode cX12_twoDigits 0 = .ok (.aload_n 0, 1) := by decide +kernel
theorem dX12_twoDigits_1 : decode cX12_twoDigits 1 = .ok (.iconst 1, 1) := by decide +kernel
theorem dX12_twoDigits_2 : decode cX12_twoDigits 2 = .ok (.invokevirtual 162, 3) := by decide +kernel
theorem dX12_twoDigits_5 : decode cX12_twoDigits 5 = .ok (.istore_n 1, 1) := by decide +kernel
theorem dX12_twoDigits_6 : decode cX12_twoDigits 6 = .ok (.iload_n 1, 1) := by decide +kernel
theorem dX12_twoDigits_7 : decode cX12_twoDigits 7 = .ok (.ifCond .ge 7, 3) := by decide +kernel
theorem dX12_twoDigits_10 : decode cX12_twoDigits 10 = .ok (.iconst (-1), 1) := by decide +kernel
theorem dX12_twoDigits_11 : decode cX12_twoDigits 11 = .ok (.goto 8, 3) := by decide +kernel
theorem dX12_twoDigits_14 : decode cX12_twoDigits 14 = .ok (.aload_n 0, 1) := by decide +kernel
theorem dX12_twoDigits_15 : decode cX12_twoDigits 15 = .ok (.iconst 1, 1) := by decide +kernel
theorem dX12_twoDigits_16 : decode cX12_twoDigits 16 = .ok (.invokevirtual 162, 3) := by decide +kernel
theorem dX12_twoDigits_19 : decode cX12_twoDigits 19 = .ok (.istore_n 2, 1) := by decide +kernel
theorem dX12_twoDigits_20 : decode cX12_twoDigits 20 = .ok (.iload_n 2, 1) := by decide +kernel
theorem dX12_twoDigits_21 : decode cX12_twoDigits 21 = .ok (.ifCond .ge 7, 3) := by decide +kernel
theorem dX12_twoDigits_24 : decode cX12_twoDigits 24 = .ok (.iconst (-1), 1) := by decide +kernel
theorem dX12_twoDigits_25 : decode cX12_twoDigits 25 = .ok (.goto 9, 3) := by decide +kernel
theorem dX12_twoDigits_28 : decode cX12_twoDigits 28 = .ok (.bipush 10, 2) := by decide +kernel
theorem dX12_twoDigits_30 : decode cX12_twoDigits 30 = .ok (.iload_n 1, 1) := by decide +kernel
theorem dX12_twoDigits_31 : decode cX12_twoDigits 31 = .ok (.imul, 1) := by decide +kernel
theorem dX12_twoDigits_32 : decode cX12_twoDigits 32 = .ok (.iload_n 2, 1) := by decide +kernel
theorem dX12_twoDigits_33 : decode cX12_twoDigits 33 = .ok (.iadd, 1) := by decide +kernel
theorem dX12_twoDigits_34 : decode cX12_twoDigits 34 = .ok (.ireturn, 1) := by decide +kernel
theorem dX12_faultOf_0 : decode cX12_faultOf 0 = .ok (.iload_n 3, 1) := by decide +kernel
theorem dX12_faultOf_1 : decode cX12_faultOf 1 = .ok (.ifCond .eq 18, 3) := by decide +kernel
theorem dX12_faultOf_4 : decode cX12_faultOf 4 = .ok (.aload_n 0, 1) := by decide +kernel
theorem dX12_faultOf_5 : decode cX12_faultOf 5 = .ok (.getfield 121, 3) := by decide +kernel
theorem dX12_faultOf_8 : decode cX12_faultOf 8 = .ok (.aload_n 0, 1) := by decide +kernel
theorem dX12_faultOf_9 : decode cX12_faultOf 9 = .ok (.getfield 133, 3) := by decide +kernel
theorem dX12_faultOf_12 : decode cX12_faultOf 12 = .ok (.if_icmp .ne 7, 3) := by decide +kernel
theorem dX12_faultOf_15 : decode cX12_faultOf 15 = .ok (.iconst 1, 1) := by decide +kernel
theorem dX12_faultOf_16 : decode cX12_faultOf 16 = .ok (.goto 4, 3) := by decide +kernel
theorem dX12_faultOf_19 : decode cX12_faultOf 19 = .ok (.iconst 0, 1) := by decide +kernel
theorem dX12_faultOf_20 : decode cX12_faultOf 20 = .ok (.istore 4, 2) := by decide +kernel
theorem dX12_faultOf_22 : decode cX12_faultOf 22 = .ok (.iload_n 1, 1) := by decide +kernel
theorem dX12_faultOf_23 : decode cX12_faultOf 23 = .ok (.iload_n 2, 1) := by decide +kernel
theorem dX12_faultOf_24 : decode cX12_faultOf 24 = .ok (.if_icmp .le 20, 3) := by decide +kernel
theorem dX12_faultOf_27 : decode cX12_faultOf 27 = .ok (.iload 4, 2) := by decide +kernel
theorem dX12_faultOf_29 : decode cX12_faultOf 29 = .ok (.ifCond .ne 11, 3) := by decide +kernel
theorem dX12_faultOf_32 : decode cX12_faultOf 32 = .ok (.aload_n 0, 1) := by decide +kernel
theorem dX12_faultOf_33 : decode cX12_faultOf 33 = .ok (.getfield 121, 3) := by decide +kernel
theorem dX12_faultOf_36 : decode cX12_faultOf 36 = .ok (.iload_n 2, 1) := by decide +kernel
theorem dX12_faultOf_37 : decode cX12_faultOf 37 = .ok (.if_icmp .lt 7, 3) := by decide +kernel
theorem dX12_faultOf_40 : decode cX12_faultOf 40 = .ok (.iconst (-1), 1) := by decide +kernel
theorem dX12_faultOf_41 : decode cX12_faultOf 41 = .ok (.iload_n 2, 1) := by decide +kernel
theorem dX12_faultOf_42 : decode cX12_faultOf 42 = .ok (.isub, 1) := by decide +kernel
theorem dX12_faultOf_43 : decode cX12_faultOf 43 = .ok (.ireturn, 1) := by decide +kernel
theorem dX12_faultOf_44 : decode cX12_faultOf 44 = .ok (.iload 4, 2) := by decide +kernel
theorem dX12_faultOf_46 : decode cX12_faultOf 46 = .ok (.ifCond .eq 7, 3) := by decide +kernel
theorem dX12_faultOf_49 : decode cX12_faultOf 49 = .ok (.iconst 0, 1) := by decide +kernel
theorem dX12_faultOf_50 : decode cX12_faultOf 50 = .ok (.goto 9, 3) := by decide +kernel
theorem dX12_faultOf_53 : decode cX12_faultOf 53 = .ok (.iconst (-1), 1) := by decide +kernel
theorem dX12_faultOf_54 : decode cX12_faultOf 54 = .ok (.aload_n 0, 1) := by decide +kernel
theorem dX12_faultOf_55 : decode cX12_faultOf 55 = .ok (.getfield 121, 3) := by decide +kernel
theorem dX12_faultOf_58 : decode cX12_faultOf 58 = .ok (.isub, 1) := by decide +kernel
theorem dX12_faultOf_59 : decode cX12_faultOf 59 = .ok (.ireturn, 1) := by decide +kernel
theorem dX12_readsSigns_0 : decode cX12_readsSigns 0 = .ok (.aload_n 0, 1) := by decide +kernel
theorem dX12_readsSigns_1 : decode cX12_readsSigns 1 = .ok (.bipush 80, 2) := by decide +kernel
theorem dX12_readsSigns_3 : decode cX12_readsSigns 3 = .ok (.invokevirtual 166, 3) := by decide +kernel
theorem dX12_readsSigns_6 : decode cX12_readsSigns 6 = .ok (.pop, 1) := by decide +kernel
theorem dX12_readsSigns_7 : decode cX12_readsSigns 7 = .ok (.aload_n 0, 1) := by decide +kernel
theorem dX12_readsSigns_8 : decode cX12_readsSigns 8 = .ok (.iconst 0, 1) := by decide +kernel
theorem dX12_readsSigns_9 : decode cX12_readsSigns 9 = .ok (.putfield 169, 3) := by decide +kernel
theorem dX12_readsSigns_12 : decode cX12_readsSigns 12 = .ok (.aload_n 0, 1) := by decide +kernel
theorem dX12_readsSigns_13 : decode cX12_readsSigns 13 = .ok (.getfield 169, 3) := by decide +kernel
theorem dX12_readsSigns_16 : decode cX12_readsSigns 16 = .ok (.iload_n 2, 1) := by decide +kernel
theorem dX12_readsSigns_17 : decode cX12_readsSigns 17 = .ok (.if_icmp .ge 38, 3) := by decide +kernel
theorem dX12_readsSigns_20 : decode cX12_readsSigns 20 = .ok (.aload_n 0, 1) := by decide +kernel
theorem dX12_readsSigns_21 : decode cX12_readsSigns 21 = .ok (.aload_n 1, 1) := by decide +kernel
theorem dX12_readsSigns_22 : decode cX12_readsSigns 22 = .ok (.invokevirtual 154, 3) := by decide +kernel
theorem dX12_readsSigns_25 : decode cX12_readsSigns 25 = .ok (.ifCond .lt 30, 3) := by decide +kernel
theorem dX12_readsSigns_28 : decode cX12_readsSigns 28 = .ok (.aload_n 0, 1) := by decide +kernel
theorem dX12_readsSigns_29 : decode cX12_readsSigns 29 = .ok (.getfield 45, 3) := by decide +kernel
theorem dX12_readsSigns_32 : decode cX12_readsSigns 32 = .ok (.aload_n 0, 1) := by decide +kernel
theorem dX12_readsSigns_33 : decode cX12_readsSigns 33 = .ok (.getfield 169, 3) := by decide +kernel
theorem dX12_readsSigns_36 : decode cX12_readsSigns 36 = .ok (.aload_n 0, 1) := by decide +kernel
theorem dX12_readsSigns_37 : decode cX12_readsSigns 37 = .ok (.aload_n 1, 1) := by decide +kernel
theorem dX12_readsSigns_38 : decode cX12_readsSigns 38 = .ok (.invokevirtual 172, 3) := by decide +kernel
theorem dX12_readsSigns_41 : decode cX12_readsSigns 41 = .ok (.iastore, 1) := by decide +kernel
theorem dX12_readsSigns_42 : decode cX12_readsSigns 42 = .ok (.aload_n 0, 1) := by decide +kernel
theorem dX12_readsSigns_43 : decode cX12_readsSigns 43 = .ok (.dup, 1) := by decide +kernel
theorem dX12_readsSigns_44 : decode cX12_readsSigns 44 = .ok (.getfield 169, 3) := by decide +kernel
theorem dX12_readsSigns_47 : decode cX12_readsSigns 47 = .ok (.iconst 1, 1) := by decide +kernel
theorem dX12_readsSigns_48 : decode cX12_readsSigns 48 = .ok (.iadd, 1) := by decide +kernel
theorem dX12_readsSigns_49 : decode cX12_readsSigns 49 = .ok (.putfield 169, 3) := by decide +kernel
theorem dX12_readsSigns_52 : decode cX12_readsSigns 52 = .ok (.goto (-40), 3) := by decide +kernel
theorem dX12_readsSigns_55 : decode cX12_readsSigns 55 = .ok (.aload_n 0, 1) := by decide +kernel
theorem dX12_readsSigns_56 : decode cX12_readsSigns 56 = .ok (.getfield 169, 3) := by decide +kernel
theorem dX12_readsSigns_59 : decode cX12_readsSigns 59 = .ok (.ifCond .eq 14, 3) := by decide +kernel
theorem dX12_readsSigns_62 : decode cX12_readsSigns 62 = .ok (.aload_n 0, 1) := by decide +kernel
theorem dX12_readsSigns_63 : decode cX12_readsSigns 63 = .ok (.getfield 121, 3) := by decide +kernel
theorem dX12_readsSigns_66 : decode cX12_readsSigns 66 = .ok (.aload_n 0, 1) := by decide +kernel
theorem dX12_readsSigns_67 : decode cX12_readsSigns 67 = .ok (.getfield 133, 3) := by decide +kernel
theorem dX12_readsSigns_70 : decode cX12_readsSigns 70 = .ok (.if_icmp .ge 12, 3) := by decide +kernel
theorem dX12_readsSigns_73 : decode cX12_readsSigns 73 = .ok (.iconst (-1), 1) := by decide +kernel
theorem dX12_readsSigns_74 : decode cX12_readsSigns 74 = .ok (.aload_n 0, 1) := by decide +kernel
theorem dX12_readsSigns_75 : decode cX12_readsSigns 75 = .ok (.getfield 121, 3) := by decide +kernel
theorem dX12_readsSigns_78 : decode cX12_readsSigns 78 = .ok (.isub, 1) := by decide +kernel
theorem dX12_readsSigns_79 : decode cX12_readsSigns 79 = .ok (.goto 4, 3) := by decide +kernel
theorem dX12_readsSigns_82 : decode cX12_readsSigns 82 = .ok (.iconst 0, 1) := by decide +kernel
theorem dX12_readsSigns_83 : decode cX12_readsSigns 83 = .ok (.ireturn, 1) := by decide +kernel
theorem dX12_line_0 : decode cX12_line 0 = .ok (.aload_n 0, 1) := by decide +kernel
theorem dX12_line_1 : decode cX12_line 1 = .ok (.iconst 0, 1) := by decide +kernel
theorem dX12_line_2 : decode cX12_line 2 = .ok (.putfield 97, 3) := by decide +kernel
theorem dX12_line_5 : decode cX12_line 5 = .ok (.aload_n 0, 1) := by decide +kernel
theorem dX12_line_6 : decode cX12_line 6 = .ok (.ldc 175, 2) := by decide +kernel
theorem dX12_line_8 : decode cX12_line 8 = .ok (.bipush 12, 2) := by decide +kernel
theorem dX12_line_10 : decode cX12_line 10 = .ok (.invokevirtual 177, 3) := by decide +kernel
theorem dX12_line_13 : decode cX12_line 13 = .ok (.istore_n 1, 1) := by decide +kernel
theorem dX12_line_14 : decode cX12_line 14 = .ok (.iload_n 1, 1) := by decide +kernel
theorem dX12_line_15 : decode cX12_line 15 = .ok (.ifCond .ge 5, 3) := by decide +kernel
theorem dX12_line_18 : decode cX12_line 18 = .ok (.iload_n 1, 1) := by decide +kernel
theorem dX12_line_19 : decode cX12_line 19 = .ok (.ireturn, 1) := by decide +kernel
theorem dX12_line_20 : decode cX12_line 20 = .ok (.aload_n 0, 1) := by decide +kernel
theorem dX12_line_21 : decode cX12_line 21 = .ok (.aload_n 0, 1) := by decide +kernel
theorem dX12_line_22 : decode cX12_line 22 = .ok (.getfield 169, 3) := by decide +kernel
theorem dX12_line_25 : decode cX12_line 25 = .ok (.putfield 13, 3) := by decide +kernel
theorem dX12_line_28 : decode cX12_line 28 = .ok (.aload_n 0, 1) := by decide +kernel
theorem dX12_line_29 : decode cX12_line 29 = .ok (.getfield 36, 3) := by decide +kernel
theorem dX12_line_32 : decode cX12_line 32 = .ok (.bipush 24, 2) := by decide +kernel
theorem dX12_line_34 : decode cX12_line 34 = .ok (.iconst 0, 1) := by decide +kernel
theorem dX12_line_35 : decode cX12_line 35 = .ok (.iastore, 1) := by decide +kernel
theorem dX12_line_36 : decode cX12_line 36 = .ok (.iconst 0, 1) := by decide +kernel
theorem dX12_line_37 : decode cX12_line 37 = .ok (.istore_n 2, 1) := by decide +kernel
theorem dX12_line_38 : decode cX12_line 38 = .ok (.iload_n 2, 1) := by decide +kernel
theorem dX12_line_39 : decode cX12_line 39 = .ok (.bipush 12, 2) := by decide +kernel
theorem dX12_line_41 : decode cX12_line 41 = .ok (.if_icmp .ge 93, 3) := by decide +kernel
theorem dX12_line_44 : decode cX12_line 44 = .ok (.iload_n 2, 1) := by decide +kernel
theorem dX12_line_45 : decode cX12_line 45 = .ok (.aload_n 0, 1) := by decide +kernel
theorem dX12_line_46 : decode cX12_line 46 = .ok (.getfield 13, 3) := by decide +kernel
theorem dX12_line_49 : decode cX12_line 49 = .ok (.if_icmp .ge 18, 3) := by decide +kernel
theorem dX12_line_52 : decode cX12_line 52 = .ok (.aload_n 0, 1) := by decide +kernel
theorem dX12_line_53 : decode cX12_line 53 = .ok (.getfield 45, 3) := by decide +kernel
theorem dX12_line_56 : decode cX12_line 56 = .ok (.iload_n 2, 1) := by decide +kernel
theorem dX12_line_57 : decode cX12_line 57 = .ok (.iaload, 1) := by decide +kernel
theorem dX12_line_58 : decode cX12_line 58 = .ok (.bipush 10, 2) := by decide +kernel
theorem dX12_line_60 : decode cX12_line 60 = .ok (.if_icmp .ne 7, 3) := by decide +kernel
theorem dX12_line_63 : decode cX12_line 63 = .ok (.iconst 1, 1) := by decide +kernel
theorem dX12_line_64 : decode cX12_line 64 = .ok (.goto 4, 3) := by decide +kernel
theorem dX12_line_67 : decode cX12_line 67 = .ok (.iconst 0, 1) := by decide +kernel
theorem dX12_line_68 : decode cX12_line 68 = .ok (.istore_n 3, 1) := by decide +kernel
theorem dX12_line_69 : decode cX12_line 69 = .ok (.aload_n 0, 1) := by decide +kernel
theorem dX12_line_70 : decode cX12_line 70 = .ok (.getfield 36, 3) := by decide +kernel
theorem dX12_line_73 : decode cX12_line 73 = .ok (.iload_n 2, 1) := by decide +kernel
theorem dX12_line_74 : decode cX12_line 74 = .ok (.iload_n 2, 1) := by decide +kernel
theorem dX12_line_75 : decode cX12_line 75 = .ok (.aload_n 0, 1) := by decide +kernel
theorem dX12_line_76 : decode cX12_line 76 = .ok (.getfield 13, 3) := by decide +kernel
theorem dX12_line_79 : decode cX12_line 79 = .ok (.if_icmp .ge 16, 3) := by decide +kernel
theorem dX12_line_82 : decode cX12_line 82 = .ok (.iload_n 3, 1) := by decide +kernel
theorem dX12_line_83 : decode cX12_line 83 = .ok (.ifCond .ne 12, 3) := by decide +kernel
theorem dX12_line_86 : decode cX12_line 86 = .ok (.aload_n 0, 1) := by decide +kernel
theorem dX12_line_87 : decode cX12_line 87 = .ok (.getfield 45, 3) := by decide +kernel
theorem dX12_line_90 : decode cX12_line 90 = .ok (.iload_n 2, 1) := by decide +kernel
theorem dX12_line_91 : decode cX12_line 91 = .ok (.iaload, 1) := by decide +kernel
theorem dX12_line_92 : decode cX12_line 92 = .ok (.goto 4, 3) := by decide +kernel
theorem dX12_line_95 : decode cX12_line 95 = .ok (.iconst 0, 1) := by decide +kernel
theorem dX12_line_96 : decode cX12_line 96 = .ok (.iastore, 1) := by decide +kernel
theorem dX12_line_97 : decode cX12_line 97 = .ok (.aload_n 0, 1) := by decide +kernel
theorem dX12_line_98 : decode cX12_line 98 = .ok (.getfield 36, 3) := by decide +kernel
theorem dX12_line_101 : decode cX12_line 101 = .ok (.bipush 12, 2) := by decide +kernel
theorem dX12_line_103 : decode cX12_line 103 = .ok (.iload_n 2, 1) := by decide +kernel
theorem dX12_line_104 : decode cX12_line 104 = .ok (.iadd, 1) := by decide +kernel
theorem dX12_line_105 : decode cX12_line 105 = .ok (.iconst 0, 1) := by decide +kernel
theorem dX12_line_106 : decode cX12_line 106 = .ok (.iastore, 1) := by decide +kernel
theorem dX12_line_107 : decode cX12_line 107 = .ok (.aload_n 0, 1) := by decide +kernel
theorem dX12_line_108 : decode cX12_line 108 = .ok (.getfield 36, 3) := by decide +kernel
theorem dX12_line_111 : decode cX12_line 111 = .ok (.bipush 24, 2) := by decide +kernel
theorem dX12_line_113 : decode cX12_line 113 = .ok (.dup2, 1) := by decide +kernel
theorem dX12_line_114 : decode cX12_line 114 = .ok (.iaload, 1) := by decide +kernel
theorem dX12_line_115 : decode cX12_line 115 = .ok (.iload_n 3, 1) := by decide +kernel
theorem dX12_line_116 : decode cX12_line 116 = .ok (.ifCond .eq 9, 3) := by decide +kernel
theorem dX12_line_119 : decode cX12_line 119 = .ok (.iconst 1, 1) := by decide +kernel
theorem dX12_line_120 : decode cX12_line 120 = .ok (.iload_n 2, 1) := by decide +kernel
theorem dX12_line_121 : decode cX12_line 121 = .ok (.ishl, 1) := by decide +kernel
theorem dX12_line_122 : decode cX12_line 122 = .ok (.goto 4, 3) := by decide +kernel
theorem dX12_line_125 : decode cX12_line 125 = .ok (.iconst 0, 1) := by decide +kernel
theorem dX12_line_126 : decode cX12_line 126 = .ok (.ior, 1) := by decide +kernel
theorem dX12_line_127 : decode cX12_line 127 = .ok (.iastore, 1) := by decide +kernel
theorem dX12_line_128 : decode cX12_line 128 = .ok (.iinc 2 1, 3) := by decide +kernel
theorem dX12_line_131 : decode cX12_line 131 = .ok (.goto (-93), 3) := by decide +kernel
theorem dX12_line_134 : decode cX12_line 134 = .ok (.aload_n 0, 1) := by decide +kernel
theorem dX12_line_135 : decode cX12_line 135 = .ok (.getfield 36, 3) := by decide +kernel
theorem dX12_line_138 : decode cX12_line 138 = .ok (.bipush 27, 2) := by decide +kernel
theorem dX12_line_140 : decode cX12_line 140 = .ok (.iconst 0, 1) := by decide +kernel
theorem dX12_line_141 : decode cX12_line 141 = .ok (.iastore, 1) := by decide +kernel
theorem dX12_line_142 : decode cX12_line 142 = .ok (.aload_n 0, 1) := by decide +kernel
theorem dX12_line_143 : decode cX12_line 143 = .ok (.getfield 36, 3) := by decide +kernel
theorem dX12_line_146 : decode cX12_line 146 = .ok (.bipush 28, 2) := by decide +kernel
theorem dX12_line_148 : decode cX12_line 148 = .ok (.iconst 0, 1) := by decide +kernel
theorem dX12_line_149 : decode cX12_line 149 = .ok (.iastore, 1) := by decide +kernel
theorem dX12_line_150 : decode cX12_line 150 = .ok (.aload_n 0, 1) := by decide +kernel
theorem dX12_line_151 : decode cX12_line 151 = .ok (.iconst 0, 1) := by decide +kernel
theorem dX12_line_152 : decode cX12_line 152 = .ok (.putfield 181, 3) := by decide +kernel
theorem dX12_line_155 : decode cX12_line 155 = .ok (.iconst 0, 1) := by decide +kernel
theorem dX12_line_156 : decode cX12_line 156 = .ok (.istore_n 2, 1) := by decide +kernel
theorem dX12_line_157 : decode cX12_line 157 = .ok (.iload_n 2, 1) := by decide +kernel
theorem dX12_line_158 : decode cX12_line 158 = .ok (.iconst 3, 1) := by decide +kernel
theorem dX12_line_159 : decode cX12_line 159 = .ok (.if_icmp .ge 16, 3) := by decide +kernel
theorem dX12_line_162 : decode cX12_line 162 = .ok (.aload_n 0, 1) := by decide +kernel
theorem dX12_line_163 : decode cX12_line 163 = .ok (.getfield 90, 3) := by decide +kernel
theorem dX12_line_166 : decode cX12_line 166 = .ok (.iload_n 2, 1) := by decide +kernel
theorem dX12_line_167 : decode cX12_line 167 = .ok (.iconst 0, 1) := by decide +kernel
theorem dX12_line_168 : decode cX12_line 168 = .ok (.bastore, 1) := by decide +kernel
theorem dX12_line_169 : decode cX12_line 169 = .ok (.iinc 2 1, 3) := by decide +kernel
theorem dX12_line_172 : decode cX12_line 172 = .ok (.goto (-15), 3) := by decide +kernel
theorem dX12_line_175 : decode cX12_line 175 = .ok (.aload_n 0, 1) := by decide +kernel
theorem dX12_line_176 : decode cX12_line 176 = .ok (.getfield 13, 3) := by decide +kernel
theorem dX12_line_179 : decode cX12_line 179 = .ok (.ireturn, 1) := by decide +kernel
theorem dX12_weather_0 : decode cX12_weather 0 = .ok (.aload_n 0, 1) := by decide +kernel
theorem dX12_weather_1 : decode cX12_weather 1 = .ok (.iconst 0, 1) := by decide +kernel
theorem dX12_weather_2 : decode cX12_weather 2 = .ok (.putfield 97, 3) := by decide +kernel
theorem dX12_weather_5 : decode cX12_weather 5 = .ok (.aload_n 0, 1) := by decide +kernel
theorem dX12_weather_6 : decode cX12_weather 6 = .ok (.ldc 184, 2) := by decide +kernel
theorem dX12_weather_8 : decode cX12_weather 8 = .ok (.bipush 20, 2) := by decide +kernel
theorem dX12_weather_10 : decode cX12_weather 10 = .ok (.invokevirtual 177, 3) := by decide +kernel
theorem dX12_weather_13 : decode cX12_weather 13 = .ok (.istore_n 1, 1) := by decide +kernel
theorem dX12_weather_14 : decode cX12_weather 14 = .ok (.iload_n 1, 1) := by decide +kernel
theorem dX12_weather_15 : decode cX12_weather 15 = .ok (.ifCond .ge 5, 3) := by decide +kernel
theorem dX12_weather_18 : decode cX12_weather 18 = .ok (.iload_n 1, 1) := by decide +kernel
theorem dX12_weather_19 : decode cX12_weather 19 = .ok (.ireturn, 1) := by decide +kernel
theorem dX12_weather_20 : decode cX12_weather 20 = .ok (.aload_n 0, 1) := by decide +kernel
theorem dX12_weather_21 : decode cX12_weather 21 = .ok (.aload_n 0, 1) := by decide +kernel
theorem dX12_weather_22 : decode cX12_weather 22 = .ok (.getfield 169, 3) := by decide +kernel
theorem dX12_weather_25 : decode cX12_weather 25 = .ok (.putfield 17, 3) := by decide +kernel
theorem dX12_weather_28 : decode cX12_weather 28 = .ok (.iconst 0, 1) := by decide +kernel
theorem dX12_weather_29 : decode cX12_weather 29 = .ok (.istore_n 2, 1) := by decide +kernel
theorem dX12_weather_30 : decode cX12_weather 30 = .ok (.iload_n 2, 1) := by decide +kernel
theorem dX12_weather_31 : decode cX12_weather 31 = .ok (.aload_n 0, 1) := by decide +kernel
theorem dX12_weather_32 : decode cX12_weather 32 = .ok (.getfield 17, 3) := by decide +kernel
theorem dX12_weather_35 : decode cX12_weather 35 = .ok (.if_icmp .ge 21, 3) := by decide +kernel
theorem dX12_weather_38 : decode cX12_weather 38 = .ok (.aload_n 0, 1) := by decide +kernel
theorem dX12_weather_39 : decode cX12_weather 39 = .ok (.getfield 20, 3) := by decide +kernel
theorem dX12_weather_42 : decode cX12_weather 42 = .ok (.iload_n 2, 1) := by decide +kernel
theorem dX12_weather_43 : decode cX12_weather 43 = .ok (.aload_n 0, 1) := by decide +kernel
theorem dX12_weather_44 : decode cX12_weather 44 = .ok (.getfield 45, 3) := by decide +kernel
theorem dX12_weather_47 : decode cX12_weather 47 = .ok (.iload_n 2, 1) := by decide +kernel
theorem dX12_weather_48 : decode cX12_weather 48 = .ok (.iaload, 1) := by decide +kernel
theorem dX12_weather_49 : decode cX12_weather 49 = .ok (.iastore, 1) := by decide +kernel
theorem dX12_weather_50 : decode cX12_weather 50 = .ok (.iinc 2 1, 3) := by decide +kernel
theorem dX12_weather_53 : decode cX12_weather 53 = .ok (.goto (-23), 3) := by decide +kernel
theorem dX12_weather_56 : decode cX12_weather 56 = .ok (.aload_n 0, 1) := by decide +kernel
theorem dX12_weather_57 : decode cX12_weather 57 = .ok (.getfield 17, 3) := by decide +kernel
theorem dX12_weather_60 : decode cX12_weather 60 = .ok (.ireturn, 1) := by decide +kernel
theorem dX12_readsCarrier_0 : decode cX12_readsCarrier 0 = .ok (.aload_n 0, 1) := by decide +kernel
theorem dX12_readsCarrier_1 : decode cX12_readsCarrier 1 = .ok (.getfield 111, 3) := by decide +kernel
theorem dX12_readsCarrier_4 : decode cX12_readsCarrier 4 = .ok (.aload_n 0, 1) := by decide +kernel
theorem dX12_readsCarrier_5 : decode cX12_readsCarrier 5 = .ok (.getfield 169, 3) := by decide +kernel
theorem dX12_readsCarrier_8 : decode cX12_readsCarrier 8 = .ok (.iadd, 1) := by decide +kernel
theorem dX12_readsCarrier_9 : decode cX12_readsCarrier 9 = .ok (.bipush 8, 2) := by decide +kernel
theorem dX12_readsCarrier_11 : decode cX12_readsCarrier 11 = .ok (.if_icmp .ne 5, 3) := by decide +kernel
theorem dX12_readsCarrier_14 : decode cX12_readsCarrier 14 = .ok (.iconst 0, 1) := by decide +kernel
theorem dX12_readsCarrier_15 : decode cX12_readsCarrier 15 = .ok (.ireturn, 1) := by decide +kernel
theorem dX12_readsCarrier_16 : decode cX12_readsCarrier 16 = .ok (.iconst 2, 1) := by decide +kernel
theorem dX12_readsCarrier_17 : decode cX12_readsCarrier 17 = .ok (.aload_n 0, 1) := by decide +kernel
theorem dX12_readsCarrier_18 : decode cX12_readsCarrier 18 = .ok (.getfield 169, 3) := by decide +kernel
theorem dX12_readsCarrier_21 : decode cX12_readsCarrier 21 = .ok (.imul, 1) := by decide +kernel
theorem dX12_readsCarrier_22 : decode cX12_readsCarrier 22 = .ok (.istore_n 1, 1) := by decide +kernel
theorem dX12_readsCarrier_23 : decode cX12_readsCarrier 23 = .ok (.aload_n 0, 1) := by decide +kernel
theorem dX12_readsCarrier_24 : decode cX12_readsCarrier 24 = .ok (.getfield 45, 3) := by decide +kernel
theorem dX12_readsCarrier_27 : decode cX12_readsCarrier 27 = .ok (.iload_n 1, 1) := by decide +kernel
theorem dX12_readsCarrier_28 : decode cX12_readsCarrier 28 = .ok (.aload_n 0, 1) := by decide +kernel
theorem dX12_readsCarrier_29 : decode cX12_readsCarrier 29 = .ok (.iconst 0, 1) := by decide +kernel
theorem dX12_readsCarrier_30 : decode cX12_readsCarrier 30 = .ok (.iconst 4, 1) := by decide +kernel
theorem dX12_readsCarrier_31 : decode cX12_readsCarrier 31 = .ok (.invokevirtual 186, 3) := by decide +kernel
theorem dX12_readsCarrier_34 : decode cX12_readsCarrier 34 = .ok (.iastore, 1) := by decide +kernel
theorem dX12_readsCarrier_35 : decode cX12_readsCarrier 35 = .ok (.aload_n 0, 1) := by decide +kernel
theorem dX12_readsCarrier_36 : decode cX12_readsCarrier 36 = .ok (.getfield 45, 3) := by decide +kernel
theorem dX12_readsCarrier_39 : decode cX12_readsCarrier 39 = .ok (.iload_n 1, 1) := by decide +kernel
theorem dX12_readsCarrier_40 : decode cX12_readsCarrier 40 = .ok (.iconst 1, 1) := by decide +kernel
theorem dX12_readsCarrier_41 : decode cX12_readsCarrier 41 = .ok (.iadd, 1) := by decide +kernel
theorem dX12_readsCarrier_42 : decode cX12_readsCarrier 42 = .ok (.aload_n 0, 1) := by decide +kernel
theorem dX12_readsCarrier_43 : decode cX12_readsCarrier 43 = .ok (.getfield 45, 3) := by decide +kernel
theorem dX12_readsCarrier_46 : decode cX12_readsCarrier 46 = .ok (.iload_n 1, 1) := by decide +kernel
theorem dX12_readsCarrier_47 : decode cX12_readsCarrier 47 = .ok (.iaload, 1) := by decide +kernel
theorem dX12_readsCarrier_48 : decode cX12_readsCarrier 48 = .ok (.ifCond .ge 7, 3) := by decide +kernel
theorem dX12_readsCarrier_51 : decode cX12_readsCarrier 51 = .ok (.iconst (-1), 1) := by decide +kernel
theorem dX12_readsCarrier_52 : decode cX12_readsCarrier 52 = .ok (.goto 10, 3) := by decide +kernel
theorem dX12_readsCarrier_55 : decode cX12_readsCarrier 55 = .ok (.aload_n 0, 1) := by decide +kernel
theorem dX12_readsCarrier_56 : decode cX12_readsCarrier 56 = .ok (.iconst 1, 1) := by decide +kernel
theorem dX12_readsCarrier_57 : decode cX12_readsCarrier 57 = .ok (.bipush 9, 2) := by decide +kernel
theorem dX12_readsCarrier_59 : decode cX12_readsCarrier 59 = .ok (.invokevirtual 186, 3) := by decide +kernel
theorem dX12_readsCarrier_62 : decode cX12_readsCarrier 62 = .ok (.iastore, 1) := by decide +kernel
theorem dX12_readsCarrier_63 : decode cX12_readsCarrier 63 = .ok (.aload_n 0, 1) := by decide +kernel
theorem dX12_readsCarrier_64 : decode cX12_readsCarrier 64 = .ok (.dup, 1) := by decide +kernel
theorem dX12_readsCarrier_65 : decode cX12_readsCarrier 65 = .ok (.getfield 169, 3) := by decide +kernel
theorem dX12_readsCarrier_68 : decode cX12_readsCarrier 68 = .ok (.iconst 1, 1) := by decide +kernel
theorem dX12_readsCarrier_69 : decode cX12_readsCarrier 69 = .ok (.iadd, 1) := by decide +kernel
theorem dX12_readsCarrier_70 : decode cX12_readsCarrier 70 = .ok (.putfield 169, 3) := by decide +kernel
theorem dX12_readsCarrier_73 : decode cX12_readsCarrier 73 = .ok (.aload_n 0, 1) := by decide +kernel
theorem dX12_readsCarrier_74 : decode cX12_readsCarrier 74 = .ok (.getfield 45, 3) := by decide +kernel
theorem dX12_readsCarrier_77 : decode cX12_readsCarrier 77 = .ok (.iload_n 1, 1) := by decide +kernel
theorem dX12_readsCarrier_78 : decode cX12_readsCarrier 78 = .ok (.iconst 1, 1) := by decide +kernel
theorem dX12_readsCarrier_79 : decode cX12_readsCarrier 79 = .ok (.iadd, 1) := by decide +kernel
theorem dX12_readsCarrier_80 : decode cX12_readsCarrier 80 = .ok (.iaload, 1) := by decide +kernel
theorem dX12_readsCarrier_81 : decode cX12_readsCarrier 81 = .ok (.ifCond .lt 7, 3) := by decide +kernel
theorem dX12_readsCarrier_84 : decode cX12_readsCarrier 84 = .ok (.iconst 1, 1) := by decide +kernel
theorem dX12_readsCarrier_85 : decode cX12_readsCarrier 85 = .ok (.goto 4, 3) := by decide +kernel
theorem dX12_readsCarrier_88 : decode cX12_readsCarrier 88 = .ok (.iconst 0, 1) := by decide +kernel
theorem dX12_readsCarrier_89 : decode cX12_readsCarrier 89 = .ok (.ireturn, 1) := by decide +kernel
theorem dX12_carriers_0 : decode cX12_carriers 0 = .ok (.aload_n 0, 1) := by decide +kernel
theorem dX12_carriers_1 : decode cX12_carriers 1 = .ok (.iconst 0, 1) := by decide +kernel
theorem dX12_carriers_2 : decode cX12_carriers 2 = .ok (.putfield 97, 3) := by decide +kernel
theorem dX12_carriers_5 : decode cX12_carriers 5 = .ok (.aload_n 0, 1) := by decide +kernel
theorem dX12_carriers_6 : decode cX12_carriers 6 = .ok (.bipush 23, 2) := by decide +kernel
theorem dX12_carriers_8 : decode cX12_carriers 8 = .ok (.invokevirtual 166, 3) := by decide +kernel
theorem dX12_carriers_11 : decode cX12_carriers 11 = .ok (.istore_n 1, 1) := by decide +kernel
theorem dX12_carriers_12 : decode cX12_carriers 12 = .ok (.aload_n 0, 1) := by decide +kernel
theorem dX12_carriers_13 : decode cX12_carriers 13 = .ok (.iconst 0, 1) := by decide +kernel
theorem dX12_carriers_14 : decode cX12_carriers 14 = .ok (.putfield 169, 3) := by decide +kernel
theorem dX12_carriers_17 : decode cX12_carriers 17 = .ok (.iconst 1, 1) := by decide +kernel
theorem dX12_carriers_18 : decode cX12_carriers 18 = .ok (.istore_n 2, 1) := by decide +kernel
theorem dX12_carriers_19 : decode cX12_carriers 19 = .ok (.iload_n 1, 1) := by decide +kernel
theorem dX12_carriers_20 : decode cX12_carriers 20 = .ok (.ifCond .le 7, 3) := by decide +kernel
theorem dX12_carriers_23 : decode cX12_carriers 23 = .ok (.iconst 1, 1) := by decide +kernel
theorem dX12_carriers_24 : decode cX12_carriers 24 = .ok (.goto 4, 3) := by decide +kernel
theorem dX12_carriers_27 : decode cX12_carriers 27 = .ok (.iconst 0, 1) := by decide +kernel
theorem dX12_carriers_28 : decode cX12_carriers 28 = .ok (.istore_n 3, 1) := by decide +kernel
theorem dX12_carriers_29 : decode cX12_carriers 29 = .ok (.iload_n 3, 1) := by decide +kernel
theorem dX12_carriers_30 : decode cX12_carriers 30 = .ok (.ifCond .eq 30, 3) := by decide +kernel
theorem dX12_carriers_33 : decode cX12_carriers 33 = .ok (.aload_n 0, 1) := by decide +kernel
theorem dX12_carriers_34 : decode cX12_carriers 34 = .ok (.invokevirtual 189, 3) := by decide +kernel
theorem dX12_carriers_37 : decode cX12_carriers 37 = .ok (.istore_n 2, 1) := by decide +kernel
theorem dX12_carriers_38 : decode cX12_carriers 38 = .ok (.iload_n 2, 1) := by decide +kernel
theorem dX12_carriers_39 : decode cX12_carriers 39 = .ok (.ifCond .eq 16, 3) := by decide +kernel
theorem dX12_carriers_42 : decode cX12_carriers 42 = .ok (.aload_n 0, 1) := by decide +kernel
theorem dX12_carriers_43 : decode cX12_carriers 43 = .ok (.bipush 59, 2) := by decide +kernel
theorem dX12_carriers_45 : decode cX12_carriers 45 = .ok (.invokevirtual 192, 3) := by decide +kernel
theorem dX12_carriers_48 : decode cX12_carriers 48 = .ok (.ifCond .eq 7, 3) := by decide +kernel
theorem dX12_carriers_51 : decode cX12_carriers 51 = .ok (.iconst 1, 1) := by decide +kernel
theorem dX12_carriers_52 : decode cX12_carriers 52 = .ok (.goto 4, 3) := by decide +kernel
theorem dX12_carriers_55 : decode cX12_carriers 55 = .ok (.iconst 0, 1) := by decide +kernel
theorem dX12_carriers_56 : decode cX12_carriers 56 = .ok (.istore_n 3, 1) := by decide +kernel
theorem dX12_carriers_57 : decode cX12_carriers 57 = .ok (.goto (-28), 3) := by decide +kernel
theorem dX12_carriers_60 : decode cX12_carriers 60 = .ok (.aload_n 0, 1) := by decide +kernel
theorem dX12_carriers_61 : decode cX12_carriers 61 = .ok (.iload_n 1, 1) := by decide +kernel
theorem dX12_carriers_62 : decode cX12_carriers 62 = .ok (.bipush 23, 2) := by decide +kernel
theorem dX12_carriers_64 : decode cX12_carriers 64 = .ok (.iload_n 2, 1) := by decide +kernel
theorem dX12_carriers_65 : decode cX12_carriers 65 = .ok (.invokevirtual 196, 3) := by decide +kernel
theorem dX12_carriers_68 : decode cX12_carriers 68 = .ok (.istore 4, 2) := by decide +kernel
theorem dX12_carriers_70 : decode cX12_carriers 70 = .ok (.iload 4, 2) := by decide +kernel
theorem dX12_carriers_72 : decode cX12_carriers 72 = .ok (.ifCond .ge 6, 3) := by decide +kernel
theorem dX12_carriers_75 : decode cX12_carriers 75 = .ok (.iload 4, 2) := by decide +kernel
theorem dX12_carriers_77 : decode cX12_carriers 77 = .ok (.ireturn, 1) := by decide +kernel
theorem dX12_carriers_78 : decode cX12_carriers 78 = .ok (.iconst 0, 1) := by decide +kernel
theorem dX12_carriers_79 : decode cX12_carriers 79 = .ok (.istore 5, 2) := by decide +kernel
theorem dX12_carriers_81 : decode cX12_carriers 81 = .ok (.iload 5, 2) := by decide +kernel
theorem dX12_carriers_83 : decode cX12_carriers 83 = .ok (.aload_n 0, 1) := by decide +kernel
theorem dX12_carriers_84 : decode cX12_carriers 84 = .ok (.getfield 169, 3) := by decide +kernel
theorem dX12_carriers_87 : decode cX12_carriers 87 = .ok (.if_icmp .ge 57, 3) := by decide +kernel
theorem dX12_carriers_90 : decode cX12_carriers 90 = .ok (.aload_n 0, 1) := by decide +kernel
theorem dX12_carriers_91 : decode cX12_carriers 91 = .ok (.getfield 24, 3) := by decide +kernel
theorem dX12_carriers_94 : decode cX12_carriers 94 = .ok (.aload_n 0, 1) := by decide +kernel
theorem dX12_carriers_95 : decode cX12_carriers 95 = .ok (.getfield 111, 3) := by decide +kernel
theorem dX12_carriers_98 : decode cX12_carriers 98 = .ok (.aload_n 0, 1) := by decide +kernel
theorem dX12_carriers_99 : decode cX12_carriers 99 = .ok (.getfield 45, 3) := by decide +kernel
theorem dX12_carriers_102 : decode cX12_carriers 102 = .ok (.iconst 2, 1) := by decide +kernel
theorem dX12_carriers_103 : decode cX12_carriers 103 = .ok (.iload 5, 2) := by decide +kernel
theorem dX12_carriers_105 : decode cX12_carriers 105 = .ok (.imul, 1) := by decide +kernel
theorem dX12_carriers_106 : decode cX12_carriers 106 = .ok (.iaload, 1) := by decide +kernel
theorem dX12_carriers_107 : decode cX12_carriers 107 = .ok (.iastore, 1) := by decide +kernel
theorem dX12_carriers_108 : decode cX12_carriers 108 = .ok (.aload_n 0, 1) := by decide +kernel
theorem dX12_carriers_109 : decode cX12_carriers 109 = .ok (.getfield 27, 3) := by decide +kernel
theorem dX12_carriers_112 : decode cX12_carriers 112 = .ok (.aload_n 0, 1) := by decide +kernel
theorem dX12_carriers_113 : decode cX12_carriers 113 = .ok (.getfield 111, 3) := by decide +kernel
theorem dX12_carriers_116 : decode cX12_carriers 116 = .ok (.aload_n 0, 1) := by decide +kernel
theorem dX12_carriers_117 : decode cX12_carriers 117 = .ok (.getfield 45, 3) := by decide +kernel
theorem dX12_carriers_120 : decode cX12_carriers 120 = .ok (.iconst 2, 1) := by decide +kernel
theorem dX12_carriers_121 : decode cX12_carriers 121 = .ok (.iload 5, 2) := by decide +kernel
theorem dX12_carriers_123 : decode cX12_carriers 123 = .ok (.imul, 1) := by decide +kernel
theorem dX12_carriers_124 : decode cX12_carriers 124 = .ok (.iconst 1, 1) := by decide +kernel
theorem dX12_carriers_125 : decode cX12_carriers 125 = .ok (.iadd, 1) := by decide +kernel
theorem dX12_carriers_126 : decode cX12_carriers 126 = .ok (.iaload, 1) := by decide +kernel
theorem dX12_carriers_127 : decode cX12_carriers 127 = .ok (.iastore, 1) := by decide +kernel
theorem dX12_carriers_128 : decode cX12_carriers 128 = .ok (.aload_n 0, 1) := by decide +kernel
theorem dX12_carriers_129 : decode cX12_carriers 129 = .ok (.dup, 1) := by decide +kernel
theorem dX12_carriers_130 : decode cX12_carriers 130 = .ok (.getfield 111, 3) := by decide +kernel
theorem dX12_carriers_133 : decode cX12_carriers 133 = .ok (.iconst 1, 1) := by decide +kernel
theorem dX12_carriers_134 : decode cX12_carriers 134 = .ok (.iadd, 1) := by decide +kernel
theorem dX12_carriers_135 : decode cX12_carriers 135 = .ok (.putfield 111, 3) := by decide +kernel
theorem dX12_carriers_138 : decode cX12_carriers 138 = .ok (.iinc 5 1, 3) := by decide +kernel
theorem dX12_carriers_141 : decode cX12_carriers 141 = .ok (.goto (-60), 3) := by decide +kernel
theorem dX12_carriers_144 : decode cX12_carriers 144 = .ok (.aload_n 0, 1) := by decide +kernel
theorem dX12_carriers_145 : decode cX12_carriers 145 = .ok (.getfield 169, 3) := by decide +kernel
theorem dX12_carriers_148 : decode cX12_carriers 148 = .ok (.ireturn, 1) := by decide +kernel
theorem dX12_readsSort_0 : decode cX12_readsSort 0 = .ok (.aload_n 0, 1) := by decide +kernel
theorem dX12_readsSort_1 : decode cX12_readsSort 1 = .ok (.getfield 200, 3) := by decide +kernel
theorem dX12_readsSort_4 : decode cX12_readsSort 4 = .ok (.aload_n 0, 1) := by decide +kernel
theorem dX12_readsSort_5 : decode cX12_readsSort 5 = .ok (.getfield 169, 3) := by decide +kernel
theorem dX12_readsSort_8 : decode cX12_readsSort 8 = .ok (.iadd, 1) := by decide +kernel
theorem dX12_readsSort_9 : decode cX12_readsSort 9 = .ok (.bipush 8, 2) := by decide +kernel
theorem dX12_readsSort_11 : decode cX12_readsSort 11 = .ok (.if_icmp .ne 5, 3) := by decide +kernel
theorem dX12_readsSort_14 : decode cX12_readsSort 14 = .ok (.iconst 0, 1) := by decide +kernel
theorem dX12_readsSort_15 : decode cX12_readsSort 15 = .ok (.ireturn, 1) := by decide +kernel
theorem dX12_readsSort_16 : decode cX12_readsSort 16 = .ok (.iconst 2, 1) := by decide +kernel
theorem dX12_readsSort_17 : decode cX12_readsSort 17 = .ok (.aload_n 0, 1) := by decide +kernel
theorem dX12_readsSort_18 : decode cX12_readsSort 18 = .ok (.getfield 169, 3) := by decide +kernel
theorem dX12_readsSort_21 : decode cX12_readsSort 21 = .ok (.imul, 1) := by decide +kernel
theorem dX12_readsSort_22 : decode cX12_readsSort 22 = .ok (.istore_n 1, 1) := by decide +kernel
theorem dX12_readsSort_23 : decode cX12_readsSort 23 = .ok (.aload_n 0, 1) := by decide +kernel
theorem dX12_readsSort_24 : decode cX12_readsSort 24 = .ok (.getfield 45, 3) := by decide +kernel
theorem dX12_readsSort_27 : decode cX12_readsSort 27 = .ok (.iload_n 1, 1) := by decide +kernel
theorem dX12_readsSort_28 : decode cX12_readsSort 28 = .ok (.aload_n 0, 1) := by decide +kernel
theorem dX12_readsSort_29 : decode cX12_readsSort 29 = .ok (.iconst 2, 1) := by decide +kernel
theorem dX12_readsSort_30 : decode cX12_readsSort 30 = .ok (.invokevirtual 162, 3) := by decide +kernel
theorem dX12_readsSort_33 : decode cX12_readsSort 33 = .ok (.iastore, 1) := by decide +kernel
theorem dX12_readsSort_34 : decode cX12_readsSort 34 = .ok (.aload_n 0, 1) := by decide +kernel
theorem dX12_readsSort_35 : decode cX12_readsSort 35 = .ok (.getfield 45, 3) := by decide +kernel
theorem dX12_readsSort_38 : decode cX12_readsSort 38 = .ok (.iload_n 1, 1) := by decide +kernel
theorem dX12_readsSort_39 : decode cX12_readsSort 39 = .ok (.iaload, 1) := by decide +kernel
theorem dX12_readsSort_40 : decode cX12_readsSort 40 = .ok (.ifCond .ne 15, 3) := by decide +kernel
theorem dX12_readsSort_43 : decode cX12_readsSort 43 = .ok (.aload_n 0, 1) := by decide +kernel
theorem dX12_readsSort_44 : decode cX12_readsSort 44 = .ok (.dup, 1) := by decide +kernel
theorem dX12_readsSort_45 : decode cX12_readsSort 45 = .ok (.getfield 121, 3) := by decide +kernel
theorem dX12_readsSort_48 : decode cX12_readsSort 48 = .ok (.iconst 1, 1) := by decide +kernel
theorem dX12_readsSort_49 : decode cX12_readsSort 49 = .ok (.isub, 1) := by decide +kernel
theorem dX12_readsSort_50 : decode cX12_readsSort 50 = .ok (.putfield 121, 3) := by decide +kernel
theorem dX12_readsSort_53 : decode cX12_readsSort 53 = .ok (.iconst 0, 1) := by decide +kernel
theorem dX12_readsSort_54 : decode cX12_readsSort 54 = .ok (.ireturn, 1) := by decide +kernel
theorem dX12_readsSort_55 : decode cX12_readsSort 55 = .ok (.aload_n 0, 1) := by decide +kernel
theorem dX12_readsSort_56 : decode cX12_readsSort 56 = .ok (.getfield 45, 3) := by decide +kernel
theorem dX12_readsSort_59 : decode cX12_readsSort 59 = .ok (.iload_n 1, 1) := by decide +kernel
theorem dX12_readsSort_60 : decode cX12_readsSort 60 = .ok (.iaload, 1) := by decide +kernel
theorem dX12_readsSort_61 : decode cX12_readsSort 61 = .ok (.ifCond .lt 12, 3) := by decide +kernel
theorem dX12_readsSort_64 : decode cX12_readsSort 64 = .ok (.aload_n 0, 1) := by decide +kernel
theorem dX12_readsSort_65 : decode cX12_readsSort 65 = .ok (.bipush 44, 2) := by decide +kernel
theorem dX12_readsSort_67 : decode cX12_readsSort 67 = .ok (.invokevirtual 192, 3) := by decide +kernel
theorem dX12_readsSort_70 : decode cX12_readsSort 70 = .ok (.ifCond .ne 5, 3) := by decide +kernel
theorem dX12_readsSort_73 : decode cX12_readsSort 73 = .ok (.iconst 0, 1) := by decide +kernel
theorem dX12_readsSort_74 : decode cX12_readsSort 74 = .ok (.ireturn, 1) := by decide +kernel
theorem dX12_readsSort_75 : decode cX12_readsSort 75 = .ok (.aload_n 0, 1) := by decide +kernel
theorem dX12_readsSort_76 : decode cX12_readsSort 76 = .ok (.getfield 45, 3) := by decide +kernel
theorem dX12_readsSort_79 : decode cX12_readsSort 79 = .ok (.iload_n 1, 1) := by decide +kernel
theorem dX12_readsSort_80 : decode cX12_readsSort 80 = .ok (.iconst 1, 1) := by decide +kernel
theorem dX12_readsSort_81 : decode cX12_readsSort 81 = .ok (.iadd, 1) := by decide +kernel
theorem dX12_readsSort_82 : decode cX12_readsSort 82 = .ok (.aload_n 0, 1) := by decide +kernel
theorem dX12_readsSort_83 : decode cX12_readsSort 83 = .ok (.iconst 2, 1) := by decide +kernel
theorem dX12_readsSort_84 : decode cX12_readsSort 84 = .ok (.invokevirtual 162, 3) := by decide +kernel
theorem dX12_readsSort_87 : decode cX12_readsSort 87 = .ok (.iastore, 1) := by decide +kernel
theorem dX12_readsSort_88 : decode cX12_readsSort 88 = .ok (.aload_n 0, 1) := by decide +kernel
theorem dX12_readsSort_89 : decode cX12_readsSort 89 = .ok (.dup, 1) := by decide +kernel
theorem dX12_readsSort_90 : decode cX12_readsSort 90 = .ok (.getfield 169, 3) := by decide +kernel
theorem dX12_readsSort_93 : decode cX12_readsSort 93 = .ok (.iconst 1, 1) := by decide +kernel
theorem dX12_readsSort_94 : decode cX12_readsSort 94 = .ok (.iadd, 1) := by decide +kernel
theorem dX12_readsSort_95 : decode cX12_readsSort 95 = .ok (.putfield 169, 3) := by decide +kernel
theorem dX12_readsSort_98 : decode cX12_readsSort 98 = .ok (.aload_n 0, 1) := by decide +kernel
theorem dX12_readsSort_99 : decode cX12_readsSort 99 = .ok (.getfield 45, 3) := by decide +kernel
theorem dX12_readsSort_102 : decode cX12_readsSort 102 = .ok (.iload_n 1, 1) := by decide +kernel
theorem dX12_readsSort_103 : decode cX12_readsSort 103 = .ok (.iconst 1, 1) := by decide +kernel
theorem dX12_readsSort_104 : decode cX12_readsSort 104 = .ok (.iadd, 1) := by decide +kernel
theorem dX12_readsSort_105 : decode cX12_readsSort 105 = .ok (.iaload, 1) := by decide +kernel
theorem dX12_readsSort_106 : decode cX12_readsSort 106 = .ok (.ifCond .lt 7, 3) := by decide +kernel
theorem dX12_readsSort_109 : decode cX12_readsSort 109 = .ok (.iconst 1, 1) := by decide +kernel
theorem dX12_readsSort_110 : decode cX12_readsSort 110 = .ok (.goto 4, 3) := by decide +kernel
theorem dX12_readsSort_113 : decode cX12_readsSort 113 = .ok (.iconst 0, 1) := by decide +kernel
theorem dX12_readsSort_114 : decode cX12_readsSort 114 = .ok (.ireturn, 1) := by decide +kernel
theorem dX12_mouths_0 : decode cX12_mouths 0 = .ok (.aload_n 0, 1) := by decide +kernel
theorem dX12_mouths_1 : decode cX12_mouths 1 = .ok (.iconst 0, 1) := by decide +kernel
theorem dX12_mouths_2 : decode cX12_mouths 2 = .ok (.putfield 97, 3) := by decide +kernel
theorem dX12_mouths_5 : decode cX12_mouths 5 = .ok (.aload_n 0, 1) := by decide +kernel
theorem dX12_mouths_6 : decode cX12_mouths 6 = .ok (.bipush 47, 2) := by decide +kernel
theorem dX12_mouths_8 : decode cX12_mouths 8 = .ok (.invokevirtual 166, 3) := by decide +kernel
theorem dX12_mouths_11 : decode cX12_mouths 11 = .ok (.istore_n 1, 1) := by decide +kernel
theorem dX12_mouths_12 : decode cX12_mouths 12 = .ok (.aload_n 0, 1) := by decide +kernel
theorem dX12_mouths_13 : decode cX12_mouths 13 = .ok (.iconst 0, 1) := by decide +kernel
theorem dX12_mouths_14 : decode cX12_mouths 14 = .ok (.putfield 169, 3) := by decide +kernel
theorem dX12_mouths_17 : decode cX12_mouths 17 = .ok (.iconst 1, 1) := by decide +kernel
theorem dX12_mouths_18 : decode cX12_mouths 18 = .ok (.istore_n 2, 1) := by decide +kernel
theorem dX12_mouths_19 : decode cX12_mouths 19 = .ok (.iload_n 1, 1) := by decide +kernel
theorem dX12_mouths_20 : decode cX12_mouths 20 = .ok (.ifCond .le 7, 3) := by decide +kernel
theorem dX12_mouths_23 : decode cX12_mouths 23 = .ok (.iconst 1, 1) := by decide +kernel
theorem dX12_mouths_24 : decode cX12_mouths 24 = .ok (.goto 4, 3) := by decide +kernel
theorem dX12_mouths_27 : decode cX12_mouths 27 = .ok (.iconst 0, 1) := by decide +kernel
theorem dX12_mouths_28 : decode cX12_mouths 28 = .ok (.istore_n 3, 1) := by decide +kernel
theorem dX12_mouths_29 : decode cX12_mouths 29 = .ok (.iload_n 3, 1) := by decide +kernel
theorem dX12_mouths_30 : decode cX12_mouths 30 = .ok (.ifCond .eq 30, 3) := by decide +kernel
theorem dX12_mouths_33 : decode cX12_mouths 33 = .ok (.aload_n 0, 1) := by decide +kernel
theorem dX12_mouths_34 : decode cX12_mouths 34 = .ok (.invokevirtual 203, 3) := by decide +kernel
theorem dX12_mouths_37 : decode cX12_mouths 37 = .ok (.istore_n 2, 1) := by decide +kernel
theorem dX12_mouths_38 : decode cX12_mouths 38 = .ok (.iload_n 2, 1) := by decide +kernel
theorem dX12_mouths_39 : decode cX12_mouths 39 = .ok (.ifCond .eq 16, 3) := by decide +kernel
theorem dX12_mouths_42 : decode cX12_mouths 42 = .ok (.aload_n 0, 1) := by decide +kernel
theorem dX12_mouths_43 : decode cX12_mouths 43 = .ok (.bipush 59, 2) := by decide +kernel
theorem dX12_mouths_45 : decode cX12_mouths 45 = .ok (.invokevirtual 192, 3) := by decide +kernel
theorem dX12_mouths_48 : decode cX12_mouths 48 = .ok (.ifCond .eq 7, 3) := by decide +kernel
theorem dX12_mouths_51 : decode cX12_mouths 51 = .ok (.iconst 1, 1) := by decide +kernel
theorem dX12_mouths_52 : decode cX12_mouths 52 = .ok (.goto 4, 3) := by decide +kernel
theorem dX12_mouths_55 : decode cX12_mouths 55 = .ok (.iconst 0, 1) := by decide +kernel
theorem dX12_mouths_56 : decode cX12_mouths 56 = .ok (.istore_n 3, 1) := by decide +kernel
theorem dX12_mouths_57 : decode cX12_mouths 57 = .ok (.goto (-28), 3) := by decide +kernel
theorem dX12_mouths_60 : decode cX12_mouths 60 = .ok (.aload_n 0, 1) := by decide +kernel
theorem dX12_mouths_61 : decode cX12_mouths 61 = .ok (.iload_n 1, 1) := by decide +kernel
theorem dX12_mouths_62 : decode cX12_mouths 62 = .ok (.bipush 47, 2) := by decide +kernel
theorem dX12_mouths_64 : decode cX12_mouths 64 = .ok (.iload_n 2, 1) := by decide +kernel
theorem dX12_mouths_65 : decode cX12_mouths 65 = .ok (.invokevirtual 196, 3) := by decide +kernel
theorem dX12_mouths_68 : decode cX12_mouths 68 = .ok (.istore 4, 2) := by decide +kernel
theorem dX12_mouths_70 : decode cX12_mouths 70 = .ok (.iload 4, 2) := by decide +kernel
theorem dX12_mouths_72 : decode cX12_mouths 72 = .ok (.ifCond .ge 6, 3) := by decide +kernel
theorem dX12_mouths_75 : decode cX12_mouths 75 = .ok (.iload 4, 2) := by decide +kernel
theorem dX12_mouths_77 : decode cX12_mouths 77 = .ok (.ireturn, 1) := by decide +kernel
theorem dX12_mouths_78 : decode cX12_mouths 78 = .ok (.iconst 0, 1) := by decide +kernel
theorem dX12_mouths_79 : decode cX12_mouths 79 = .ok (.istore 5, 2) := by decide +kernel
theorem dX12_mouths_81 : decode cX12_mouths 81 = .ok (.iload 5, 2) := by decide +kernel
theorem dX12_mouths_83 : decode cX12_mouths 83 = .ok (.aload_n 0, 1) := by decide +kernel
theorem dX12_mouths_84 : decode cX12_mouths 84 = .ok (.getfield 169, 3) := by decide +kernel
theorem dX12_mouths_87 : decode cX12_mouths 87 = .ok (.if_icmp .ge 57, 3) := by decide +kernel
theorem dX12_mouths_90 : decode cX12_mouths 90 = .ok (.aload_n 0, 1) := by decide +kernel
theorem dX12_mouths_91 : decode cX12_mouths 91 = .ok (.getfield 30, 3) := by decide +kernel
theorem dX12_mouths_94 : decode cX12_mouths 94 = .ok (.aload_n 0, 1) := by decide +kernel
theorem dX12_mouths_95 : decode cX12_mouths 95 = .ok (.getfield 200, 3) := by decide +kernel
theorem dX12_mouths_98 : decode cX12_mouths 98 = .ok (.aload_n 0, 1) := by decide +kernel
theorem dX12_mouths_99 : decode cX12_mouths 99 = .ok (.getfield 45, 3) := by decide +kernel
theorem dX12_mouths_102 : decode cX12_mouths 102 = .ok (.iconst 2, 1) := by decide +kernel
theorem dX12_mouths_103 : decode cX12_mouths 103 = .ok (.iload 5, 2) := by decide +kernel
theorem dX12_mouths_105 : decode cX12_mouths 105 = .ok (.imul, 1) := by decide +kernel
theorem dX12_mouths_106 : decode cX12_mouths 106 = .ok (.iaload, 1) := by decide +kernel
theorem dX12_mouths_107 : decode cX12_mouths 107 = .ok (.iastore, 1) := by decide +kernel
theorem dX12_mouths_108 : decode cX12_mouths 108 = .ok (.aload_n 0, 1) := by decide +kernel
theorem dX12_mouths_109 : decode cX12_mouths 109 = .ok (.getfield 33, 3) := by decide +kernel
theorem dX12_mouths_112 : decode cX12_mouths 112 = .ok (.aload_n 0, 1) := by decide +kernel
theorem dX12_mouths_113 : decode cX12_mouths 113 = .ok (.getfield 200, 3) := by decide +kernel
theorem dX12_mouths_116 : decode cX12_mouths 116 = .ok (.aload_n 0, 1) := by decide +kernel
theorem dX12_mouths_117 : decode cX12_mouths 117 = .ok (.getfield 45, 3) := by decide +kernel
theorem dX12_mouths_120 : decode cX12_mouths 120 = .ok (.iconst 2, 1) := by decide +kernel
theorem dX12_mouths_121 : decode cX12_mouths 121 = .ok (.iload 5, 2) := by decide +kernel
theorem dX12_mouths_123 : decode cX12_mouths 123 = .ok (.imul, 1) := by decide +kernel
theorem dX12_mouths_124 : decode cX12_mouths 124 = .ok (.iconst 1, 1) := by decide +kernel
theorem dX12_mouths_125 : decode cX12_mouths 125 = .ok (.iadd, 1) := by decide +kernel
theorem dX12_mouths_126 : decode cX12_mouths 126 = .ok (.iaload, 1) := by decide +kernel
theorem dX12_mouths_127 : decode cX12_mouths 127 = .ok (.iastore, 1) := by decide +kernel
theorem dX12_mouths_128 : decode cX12_mouths 128 = .ok (.aload_n 0, 1) := by decide +kernel
theorem dX12_mouths_129 : decode cX12_mouths 129 = .ok (.dup, 1) := by decide +kernel
theorem dX12_mouths_130 : decode cX12_mouths 130 = .ok (.getfield 200, 3) := by decide +kernel
theorem dX12_mouths_133 : decode cX12_mouths 133 = .ok (.iconst 1, 1) := by decide +kernel
theorem dX12_mouths_134 : decode cX12_mouths 134 = .ok (.iadd, 1) := by decide +kernel
theorem dX12_mouths_135 : decode cX12_mouths 135 = .ok (.putfield 200, 3) := by decide +kernel
theorem dX12_mouths_138 : decode cX12_mouths 138 = .ok (.iinc 5 1, 3) := by decide +kernel
theorem dX12_mouths_141 : decode cX12_mouths 141 = .ok (.goto (-60), 3) := by decide +kernel
theorem dX12_mouths_144 : decode cX12_mouths 144 = .ok (.aload_n 0, 1) := by decide +kernel
theorem dX12_mouths_145 : decode cX12_mouths 145 = .ok (.getfield 169, 3) := by decide +kernel
theorem dX12_mouths_148 : decode cX12_mouths 148 = .ok (.ireturn, 1) := by decide +kernel
theorem dX12_codes_0 : decode cX12_codes 0 = .ok (.aload_n 0, 1) := by decide +kernel
theorem dX12_codes_1 : decode cX12_codes 1 = .ok (.getfield 51, 3) := by decide +kernel
theorem dX12_codes_4 : decode cX12_codes 4 = .ok (.aload_n 0, 1) := by decide +kernel
theorem dX12_codes_5 : decode cX12_codes 5 = .ok (.getfield 206, 3) := by decide +kernel
theorem dX12_codes_8 : decode cX12_codes 8 = .ok (.iload_n 1, 1) := by decide +kernel
theorem dX12_codes_9 : decode cX12_codes 9 = .ok (.iastore, 1) := by decide +kernel
theorem dX12_codes_10 : decode cX12_codes 10 = .ok (.aload_n 0, 1) := by decide +kernel
theorem dX12_codes_11 : decode cX12_codes 11 = .ok (.dup, 1) := by decide +kernel
theorem dX12_codes_12 : decode cX12_codes 12 = .ok (.getfield 206, 3) := by decide +kernel
theorem dX12_codes_15 : decode cX12_codes 15 = .ok (.iconst 1, 1) := by decide +kernel
theorem dX12_codes_16 : decode cX12_codes 16 = .ok (.iadd, 1) := by decide +kernel
theorem dX12_codes_17 : decode cX12_codes 17 = .ok (.putfield 206, 3) := by decide +kernel
theorem dX12_codes_20 : decode cX12_codes 20 = .ok (.return_, 1) := by decide +kernel
theorem dX12_readsThing_0 : decode cX12_readsThing 0 = .ok (.aload_n 0, 1) := by decide +kernel
theorem dX12_readsThing_1 : decode cX12_readsThing 1 = .ok (.bipush 45, 2) := by decide +kernel
theorem dX12_readsThing_3 : decode cX12_readsThing 3 = .ok (.invokevirtual 192, 3) := by decide +kernel
theorem dX12_readsThing_6 : decode cX12_readsThing 6 = .ok (.ifCond .eq 17, 3) := by decide +kernel
theorem dX12_readsThing_9 : decode cX12_readsThing 9 = .ok (.aload_n 0, 1) := by decide +kernel
theorem dX12_readsThing_10 : decode cX12_readsThing 10 = .ok (.invokevirtual 209, 3) := by decide +kernel
theorem dX12_readsThing_13 : decode cX12_readsThing 13 = .ok (.istore_n 1, 1) := by decide +kernel
theorem dX12_readsThing_14 : decode cX12_readsThing 14 = .ok (.aload_n 0, 1) := by decide +kernel
theorem dX12_readsThing_15 : decode cX12_readsThing 15 = .ok (.sipush 3000, 3) := by decide +kernel
theorem dX12_readsThing_18 : decode cX12_readsThing 18 = .ok (.invokevirtual 212, 3) := by decide +kernel
theorem dX12_readsThing_21 : decode cX12_readsThing 21 = .ok (.iload_n 1, 1) := by decide +kernel
theorem dX12_readsThing_22 : decode cX12_readsThing 22 = .ok (.ireturn, 1) := by decide +kernel
theorem dX12_readsThing_23 : decode cX12_readsThing 23 = .ok (.aload_n 0, 1) := by decide +kernel
theorem dX12_readsThing_24 : decode cX12_readsThing 24 = .ok (.invokevirtual 158, 3) := by decide +kernel
theorem dX12_readsThing_27 : decode cX12_readsThing 27 = .ok (.ifCond .eq 14, 3) := by decide +kernel
theorem dX12_readsThing_30 : decode cX12_readsThing 30 = .ok (.aload_n 0, 1) := by decide +kernel
theorem dX12_readsThing_31 : decode cX12_readsThing 31 = .ok (.aload_n 0, 1) := by decide +kernel
theorem dX12_readsThing_32 : decode cX12_readsThing 32 = .ok (.iconst 3, 1) := by decide +kernel
theorem dX12_readsThing_33 : decode cX12_readsThing 33 = .ok (.invokevirtual 162, 3) := by decide +kernel
theorem dX12_readsThing_36 : decode cX12_readsThing 36 = .ok (.invokevirtual 212, 3) := by decide +kernel
theorem dX12_readsThing_39 : decode cX12_readsThing 39 = .ok (.iconst 1, 1) := by decide +kernel
theorem dX12_readsThing_40 : decode cX12_readsThing 40 = .ok (.ireturn, 1) := by decide +kernel
theorem dX12_readsThing_41 : decode cX12_readsThing 41 = .ok (.aload_n 0, 1) := by decide +kernel
theorem dX12_readsThing_42 : decode cX12_readsThing 42 = .ok (.ldc 216, 2) := by decide +kernel
theorem dX12_readsThing_44 : decode cX12_readsThing 44 = .ok (.invokevirtual 172, 3) := by decide +kernel
theorem dX12_readsThing_47 : decode cX12_readsThing 47 = .ok (.istore_n 1, 1) := by decide +kernel
theorem dX12_readsThing_48 : decode cX12_readsThing 48 = .ok (.iload_n 1, 1) := by decide +kernel
theorem dX12_readsThing_49 : decode cX12_readsThing 49 = .ok (.ifCond .lt 14, 3) := by decide +kernel
theorem dX12_readsThing_52 : decode cX12_readsThing 52 = .ok (.aload_n 0, 1) := by decide +kernel
theorem dX12_readsThing_53 : decode cX12_readsThing 53 = .ok (.sipush 1000, 3) := by decide +kernel
theorem dX12_readsThing_56 : decode cX12_readsThing 56 = .ok (.iload_n 1, 1) := by decide +kernel
theorem dX12_readsThing_57 : decode cX12_readsThing 57 = .ok (.iadd, 1) := by decide +kernel
theorem dX12_readsThing_58 : decode cX12_readsThing 58 = .ok (.invokevirtual 212, 3) := by decide +kernel
theorem dX12_readsThing_61 : decode cX12_readsThing 61 = .ok (.iconst 1, 1) := by decide +kernel
theorem dX12_readsThing_62 : decode cX12_readsThing 62 = .ok (.ireturn, 1) := by decide +kernel
theorem dX12_readsThing_63 : decode cX12_readsThing 63 = .ok (.aload_n 0, 1) := by decide +kernel
theorem dX12_readsThing_64 : decode cX12_readsThing 64 = .ok (.getfield 124, 3) := by decide +kernel
theorem dX12_readsThing_67 : decode cX12_readsThing 67 = .ok (.iconst 4, 1) := by decide +kernel
theorem dX12_readsThing_68 : decode cX12_readsThing 68 = .ok (.if_icmp .eq 12, 3) := by decide +kernel
theorem dX12_readsThing_71 : decode cX12_readsThing 71 = .ok (.aload_n 0, 1) := by decide +kernel
theorem dX12_readsThing_72 : decode cX12_readsThing 72 = .ok (.bipush 40, 2) := by decide +kernel
theorem dX12_readsThing_74 : decode cX12_readsThing 74 = .ok (.invokevirtual 192, 3) := by decide +kernel
theorem dX12_readsThing_77 : decode cX12_readsThing 77 = .ok (.ifCond .ne 5, 3) := by decide +kernel
theorem dX12_readsThing_80 : decode cX12_readsThing 80 = .ok (.iconst 0, 1) := by decide +kernel
theorem dX12_readsThing_81 : decode cX12_readsThing 81 = .ok (.ireturn, 1) := by decide +kernel
theorem dX12_readsThing_82 : decode cX12_readsThing 82 = .ok (.aload_n 0, 1) := by decide +kernel
theorem dX12_readsThing_83 : decode cX12_readsThing 83 = .ok (.dup, 1) := by decide +kernel
theorem dX12_readsThing_84 : decode cX12_readsThing 84 = .ok (.getfield 124, 3) := by decide +kernel
theorem dX12_readsThing_87 : decode cX12_readsThing 87 = .ok (.iconst 1, 1) := by decide +kernel
theorem dX12_readsThing_88 : decode cX12_readsThing 88 = .ok (.iadd, 1) := by decide +kernel
theorem dX12_readsThing_89 : decode cX12_readsThing 89 = .ok (.putfield 124, 3) := by decide +kernel
theorem dX12_readsThing_92 : decode cX12_readsThing 92 = .ok (.aload_n 0, 1) := by decide +kernel
theorem dX12_readsThing_93 : decode cX12_readsThing 93 = .ok (.iconst 0, 1) := by decide +kernel
theorem dX12_readsThing_94 : decode cX12_readsThing 94 = .ok (.invokevirtual 218, 3) := by decide +kernel
theorem dX12_readsThing_97 : decode cX12_readsThing 97 = .ok (.ifCond .eq 12, 3) := by decide +kernel
theorem dX12_readsThing_100 : decode cX12_readsThing 100 = .ok (.aload_n 0, 1) := by decide +kernel
theorem dX12_readsThing_101 : decode cX12_readsThing 101 = .ok (.bipush 41, 2) := by decide +kernel
theorem dX12_readsThing_103 : decode cX12_readsThing 103 = .ok (.invokevirtual 192, 3) := by decide +kernel
theorem dX12_readsThing_106 : decode cX12_readsThing 106 = .ok (.ifCond .ne 5, 3) := by decide +kernel
theorem dX12_readsThing_109 : decode cX12_readsThing 109 = .ok (.iconst 0, 1) := by decide +kernel
theorem dX12_readsThing_110 : decode cX12_readsThing 110 = .ok (.ireturn, 1) := by decide +kernel
theorem dX12_readsThing_111 : decode cX12_readsThing 111 = .ok (.aload_n 0, 1) := by decide +kernel
theorem dX12_readsThing_112 : decode cX12_readsThing 112 = .ok (.dup, 1) := by decide +kernel
theorem dX12_readsThing_113 : decode cX12_readsThing 113 = .ok (.getfield 124, 3) := by decide +kernel
theorem dX12_readsThing_116 : decode cX12_readsThing 116 = .ok (.iconst 1, 1) := by decide +kernel
theorem dX12_readsThing_117 : decode cX12_readsThing 117 = .ok (.isub, 1) := by decide +kernel
theorem dX12_readsThing_118 : decode cX12_readsThing 118 = .ok (.putfield 124, 3) := by decide +kernel
theorem dX12_readsThing_121 : decode cX12_readsThing 121 = .ok (.iconst 1, 1) := by decide +kernel
theorem dX12_readsThing_122 : decode cX12_readsThing 122 = .ok (.ireturn, 1) := by decide +kernel
theorem dX12_readsRank_0 : decode cX12_readsRank 0 = .ok (.iload_n 1, 1) := by decide +kernel
theorem dX12_readsRank_1 : decode cX12_readsRank 1 = .ok (.iconst 3, 1) := by decide +kernel
theorem dX12_readsRank_2 : decode cX12_readsRank 2 = .ok (.if_icmp .ne 8, 3) := by decide +kernel
theorem dX12_readsRank_5 : decode cX12_readsRank 5 = .ok (.aload_n 0, 1) := by decide +kernel
theorem dX12_readsRank_6 : decode cX12_readsRank 6 = .ok (.invokevirtual 209, 3) := by decide +kernel
theorem dX12_readsRank_9 : decode cX12_readsRank 9 = .ok (.ireturn, 1) := by decide +kernel
theorem dX12_readsRank_10 : decode cX12_readsRank 10 = .ok (.aload_n 0, 1) := by decide +kernel
theorem dX12_readsRank_11 : decode cX12_readsRank 11 = .ok (.iload_n 1, 1) := by decide +kernel
theorem dX12_readsRank_12 : decode cX12_readsRank 12 = .ok (.iconst 1, 1) := by decide +kernel
theorem dX12_readsRank_13 : decode cX12_readsRank 13 = .ok (.iadd, 1) := by decide +kernel
theorem dX12_readsRank_14 : decode cX12_readsRank 14 = .ok (.invokevirtual 218, 3) := by decide +kernel
theorem dX12_readsRank_17 : decode cX12_readsRank 17 = .ok (.ifCond .ne 5, 3) := by decide +kernel
theorem dX12_readsRank_20 : decode cX12_readsRank 20 = .ok (.iconst 0, 1) := by decide +kernel
theorem dX12_readsRank_21 : decode cX12_readsRank 21 = .ok (.ireturn, 1) := by decide +kernel
theorem dX12_readsRank_22 : decode cX12_readsRank 22 = .ok (.iconst 1, 1) := by decide +kernel
theorem dX12_readsRank_23 : decode cX12_readsRank 23 = .ok (.istore_n 2, 1) := by decide +kernel
theorem dX12_readsRank_24 : decode cX12_readsRank 24 = .ok (.iload_n 2, 1) := by decide +kernel
theorem dX12_readsRank_25 : decode cX12_readsRank 25 = .ok (.ifCond .eq 88, 3) := by decide +kernel
theorem dX12_readsRank_28 : decode cX12_readsRank 28 = .ok (.aload_n 0, 1) := by decide +kernel
theorem dX12_readsRank_29 : decode cX12_readsRank 29 = .ok (.iload_n 1, 1) := by decide +kernel
theorem dX12_readsRank_30 : decode cX12_readsRank 30 = .ok (.ifCond .ne 8, 3) := by decide +kernel
theorem dX12_readsRank_33 : decode cX12_readsRank 33 = .ok (.ldc 221, 2) := by decide +kernel
theorem dX12_readsRank_35 : decode cX12_readsRank 35 = .ok (.goto 15, 3) := by decide +kernel
theorem dX12_readsRank_38 : decode cX12_readsRank 38 = .ok (.iload_n 1, 1) := by decide +kernel
theorem dX12_readsRank_39 : decode cX12_readsRank 39 = .ok (.iconst 1, 1) := by decide +kernel
theorem dX12_readsRank_40 : decode cX12_readsRank 40 = .ok (.if_icmp .ne 8, 3) := by decide +kernel
theorem dX12_readsRank_43 : decode cX12_readsRank 43 = .ok (.ldc 223, 2) := by decide +kernel
theorem dX12_readsRank_45 : decode cX12_readsRank 45 = .ok (.goto 5, 3) := by decide +kernel
theorem dX12_readsRank_48 : decode cX12_readsRank 48 = .ok (.ldc 225, 2) := by decide +kernel
theorem dX12_readsRank_50 : decode cX12_readsRank 50 = .ok (.invokevirtual 172, 3) := by decide +kernel
theorem dX12_readsRank_53 : decode cX12_readsRank 53 = .ok (.istore_n 3, 1) := by decide +kernel
theorem dX12_readsRank_54 : decode cX12_readsRank 54 = .ok (.iload_n 3, 1) := by decide +kernel
theorem dX12_readsRank_55 : decode cX12_readsRank 55 = .ok (.ifCond .ge 5, 3) := by decide +kernel
theorem dX12_readsRank_58 : decode cX12_readsRank 58 = .ok (.iconst 1, 1) := by decide +kernel
theorem dX12_readsRank_59 : decode cX12_readsRank 59 = .ok (.ireturn, 1) := by decide +kernel
theorem dX12_readsRank_60 : decode cX12_readsRank 60 = .ok (.aload_n 0, 1) := by decide +kernel
theorem dX12_readsRank_61 : decode cX12_readsRank 61 = .ok (.iload_n 1, 1) := by decide +kernel
theorem dX12_readsRank_62 : decode cX12_readsRank 62 = .ok (.iconst 1, 1) := by decide +kernel
theorem dX12_readsRank_63 : decode cX12_readsRank 63 = .ok (.iadd, 1) := by decide +kernel
theorem dX12_readsRank_64 : decode cX12_readsRank 64 = .ok (.invokevirtual 218, 3) := by decide +kernel
theorem dX12_readsRank_67 : decode cX12_readsRank 67 = .ok (.ifCond .ne 5, 3) := by decide +kernel
theorem dX12_readsRank_70 : decode cX12_readsRank 70 = .ok (.iconst 0, 1) := by decide +kernel
theorem dX12_readsRank_71 : decode cX12_readsRank 71 = .ok (.ireturn, 1) := by decide +kernel
theorem dX12_readsRank_72 : decode cX12_readsRank 72 = .ok (.aload_n 0, 1) := by decide +kernel
theorem dX12_readsRank_73 : decode cX12_readsRank 73 = .ok (.sipush 2000, 3) := by decide +kernel
theorem dX12_readsRank_76 : decode cX12_readsRank 76 = .ok (.iload_n 3, 1) := by decide +kernel
theorem dX12_readsRank_77 : decode cX12_readsRank 77 = .ok (.iadd, 1) := by decide +kernel
theorem dX12_readsRank_78 : decode cX12_readsRank 78 = .ok (.iload_n 1, 1) := by decide +kernel
theorem dX12_readsRank_79 : decode cX12_readsRank 79 = .ok (.ifCond .ne 7, 3) := by decide +kernel
theorem dX12_readsRank_82 : decode cX12_readsRank 82 = .ok (.iconst 0, 1) := by decide +kernel
theorem dX12_readsRank_83 : decode cX12_readsRank 83 = .ok (.goto 13, 3) := by decide +kernel
theorem dX12_readsRank_86 : decode cX12_readsRank 86 = .ok (.iload_n 1, 1) := by decide +kernel
theorem dX12_readsRank_87 : decode cX12_readsRank 87 = .ok (.iconst 1, 1) := by decide +kernel
theorem dX12_readsRank_88 : decode cX12_readsRank 88 = .ok (.if_icmp .ne 7, 3) := by decide +kernel
theorem dX12_readsRank_91 : decode cX12_readsRank 91 = .ok (.iconst 3, 1) := by decide +kernel
theorem dX12_readsRank_92 : decode cX12_readsRank 92 = .ok (.goto 4, 3) := by decide +kernel
theorem dX12_readsRank_95 : decode cX12_readsRank 95 = .ok (.iconst 5, 1) := by decide +kernel
theorem dX12_readsRank_96 : decode cX12_readsRank 96 = .ok (.iadd, 1) := by decide +kernel
theorem dX12_readsRank_97 : decode cX12_readsRank 97 = .ok (.invokevirtual 212, 3) := by decide +kernel
theorem dX12_readsRank_100 : decode cX12_readsRank 100 = .ok (.iload_n 1, 1) := by decide +kernel
theorem dX12_readsRank_101 : decode cX12_readsRank 101 = .ok (.ifCond .le 7, 3) := by decide +kernel
theorem dX12_readsRank_104 : decode cX12_readsRank 104 = .ok (.iconst 1, 1) := by decide +kernel
theorem dX12_readsRank_105 : decode cX12_readsRank 105 = .ok (.goto 4, 3) := by decide +kernel
theorem dX12_readsRank_108 : decode cX12_readsRank 108 = .ok (.iconst 0, 1) := by decide +kernel
theorem dX12_readsRank_109 : decode cX12_readsRank 109 = .ok (.istore_n 2, 1) := by decide +kernel
theorem dX12_readsRank_110 : decode cX12_readsRank 110 = .ok (.goto (-86), 3) := by decide +kernel
theorem dX12_readsRank_113 : decode cX12_readsRank 113 = .ok (.iconst 1, 1) := by decide +kernel
theorem dX12_readsRank_114 : decode cX12_readsRank 114 = .ok (.ireturn, 1) := by decide +kernel
theorem dX12_readsRule_0 : decode cX12_readsRule 0 = .ok (.aload_n 0, 1) := by decide +kernel
theorem dX12_readsRule_1 : decode cX12_readsRule 1 = .ok (.bipush 40, 2) := by decide +kernel
theorem dX12_readsRule_3 : decode cX12_readsRule 3 = .ok (.invokevirtual 166, 3) := by decide +kernel
theorem dX12_readsRule_6 : decode cX12_readsRule 6 = .ok (.istore_n 1, 1) := by decide +kernel
theorem dX12_readsRule_7 : decode cX12_readsRule 7 = .ok (.aload_n 0, 1) := by decide +kernel
theorem dX12_readsRule_8 : decode cX12_readsRule 8 = .ok (.iconst 0, 1) := by decide +kernel
theorem dX12_readsRule_9 : decode cX12_readsRule 9 = .ok (.putfield 206, 3) := by decide +kernel
theorem dX12_readsRule_12 : decode cX12_readsRule 12 = .ok (.iload_n 1, 1) := by decide +kernel
theorem dX12_readsRule_13 : decode cX12_readsRule 13 = .ok (.ifCond .eq 11, 3) := by decide +kernel
theorem dX12_readsRule_16 : decode cX12_readsRule 16 = .ok (.aload_n 0, 1) := by decide +kernel
theorem dX12_readsRule_17 : decode cX12_readsRule 17 = .ok (.iconst 0, 1) := by decide +kernel
theorem dX12_readsRule_18 : decode cX12_readsRule 18 = .ok (.invokevirtual 218, 3) := by decide +kernel
theorem dX12_readsRule_21 : decode cX12_readsRule 21 = .ok (.ifCond .eq 7, 3) := by decide +kernel
theorem dX12_readsRule_24 : decode cX12_readsRule 24 = .ok (.iconst 1, 1) := by decide +kernel
theorem dX12_readsRule_25 : decode cX12_readsRule 25 = .ok (.goto 4, 3) := by decide +kernel
theorem dX12_readsRule_28 : decode cX12_readsRule 28 = .ok (.iconst 0, 1) := by decide +kernel
theorem dX12_readsRule_29 : decode cX12_readsRule 29 = .ok (.istore_n 2, 1) := by decide +kernel
theorem dX12_readsRule_30 : decode cX12_readsRule 30 = .ok (.aload_n 0, 1) := by decide +kernel
theorem dX12_readsRule_31 : decode cX12_readsRule 31 = .ok (.iload_n 1, 1) := by decide +kernel
theorem dX12_readsRule_32 : decode cX12_readsRule 32 = .ok (.bipush 40, 2) := by decide +kernel
theorem dX12_readsRule_34 : decode cX12_readsRule 34 = .ok (.iload_n 2, 1) := by decide +kernel
theorem dX12_readsRule_35 : decode cX12_readsRule 35 = .ok (.invokevirtual 196, 3) := by decide +kernel
theorem dX12_readsRule_38 : decode cX12_readsRule 38 = .ok (.ireturn, 1) := by decide +kernel
theorem dX12_laysCode_0 : decode cX12_laysCode 0 = .ok (.aload_n 0, 1) := by decide +kernel
theorem dX12_laysCode_1 : decode cX12_laysCode 1 = .ok (.iload_n 2, 1) := by decide +kernel
theorem dX12_laysCode_2 : decode cX12_laysCode 2 = .ok (.putfield 227, 3) := by decide +kernel
theorem dX12_laysCode_5 : decode cX12_laysCode 5 = .ok (.iconst 0, 1) := by decide +kernel
theorem dX12_laysCode_6 : decode cX12_laysCode 6 = .ok (.istore_n 3, 1) := by decide +kernel
theorem dX12_laysCode_7 : decode cX12_laysCode 7 = .ok (.iload_n 3, 1) := by decide +kernel
theorem dX12_laysCode_8 : decode cX12_laysCode 8 = .ok (.iload_n 2, 1) := by decide +kernel
theorem dX12_laysCode_9 : decode cX12_laysCode 9 = .ok (.if_icmp .ge 18, 3) := by decide +kernel
theorem dX12_laysCode_12 : decode cX12_laysCode 12 = .ok (.aload_n 0, 1) := by decide +kernel
theorem dX12_laysCode_13 : decode cX12_laysCode 13 = .ok (.getfield 48, 3) := by decide +kernel
theorem dX12_laysCode_16 : decode cX12_laysCode 16 = .ok (.iload_n 3, 1) := by decide +kernel
theorem dX12_laysCode_17 : decode cX12_laysCode 17 = .ok (.aload_n 1, 1) := by decide +kernel
theorem dX12_laysCode_18 : decode cX12_laysCode 18 = .ok (.iload_n 3, 1) := by decide +kernel
theorem dX12_laysCode_19 : decode cX12_laysCode 19 = .ok (.iaload, 1) := by decide +kernel
theorem dX12_laysCode_20 : decode cX12_laysCode 20 = .ok (.iastore, 1) := by decide +kernel
theorem dX12_laysCode_21 : decode cX12_laysCode 21 = .ok (.iinc 3 1, 3) := by decide +kernel
theorem dX12_laysCode_24 : decode cX12_laysCode 24 = .ok (.goto (-17), 3) := by decide +kernel
theorem dX12_laysCode_27 : decode cX12_laysCode 27 = .ok (.return_, 1) := by decide +kernel
theorem dX12_rule_0 : decode cX12_rule 0 = .ok (.aload_n 0, 1) := by decide +kernel
theorem dX12_rule_1 : decode cX12_rule 1 = .ok (.iconst 0, 1) := by decide +kernel
theorem dX12_rule_2 : decode cX12_rule 2 = .ok (.putfield 97, 3) := by decide +kernel
theorem dX12_rule_5 : decode cX12_rule 5 = .ok (.aload_n 0, 1) := by decide +kernel
theorem dX12_rule_6 : decode cX12_rule 6 = .ok (.invokevirtual 230, 3) := by decide +kernel
theorem dX12_rule_9 : decode cX12_rule 9 = .ok (.istore_n 1, 1) := by decide +kernel
theorem dX12_rule_10 : decode cX12_rule 10 = .ok (.iload_n 1, 1) := by decide +kernel
theorem dX12_rule_11 : decode cX12_rule 11 = .ok (.ifCond .ne 15, 3) := by decide +kernel
theorem dX12_rule_14 : decode cX12_rule 14 = .ok (.aload_n 0, 1) := by decide +kernel
theorem dX12_rule_15 : decode cX12_rule 15 = .ok (.aload_n 0, 1) := by decide +kernel
theorem dX12_rule_16 : decode cX12_rule 16 = .ok (.getfield 51, 3) := by decide +kernel
theorem dX12_rule_19 : decode cX12_rule 19 = .ok (.aload_n 0, 1) := by decide +kernel
theorem dX12_rule_20 : decode cX12_rule 20 = .ok (.getfield 206, 3) := by decide +kernel
theorem dX12_rule_23 : decode cX12_rule 23 = .ok (.invokevirtual 233, 3) := by decide +kernel
theorem dX12_rule_26 : decode cX12_rule 26 = .ok (.iload_n 1, 1) := by decide +kernel
theorem dX12_rule_27 : decode cX12_rule 27 = .ok (.ireturn, 1) := by decide +kernel
theorem dX12_worked_0 : decode cX12_worked 0 = .ok (.iload_n 0, 1) := by decide +kernel
theorem dX12_worked_1 : decode cX12_worked 1 = .ok (.tableswitch 93 0 5 #[39, 53, 67, 81, 85, 89], 39) := by decide +kernel
theorem dX12_worked_40 : decode cX12_worked 40 = .ok (.iload_n 1, 1) := by decide +kernel
theorem dX12_worked_41 : decode cX12_worked 41 = .ok (.iload_n 2, 1) := by decide +kernel
theorem dX12_worked_42 : decode cX12_worked 42 = .ok (.if_icmp .ge 7, 3) := by decide +kernel
theorem dX12_worked_45 : decode cX12_worked 45 = .ok (.iconst 1, 1) := by decide +kernel
theorem dX12_worked_46 : decode cX12_worked 46 = .ok (.goto 4, 3) := by decide +kernel
theorem dX12_worked_49 : decode cX12_worked 49 = .ok (.iconst 0, 1) := by decide +kernel
theorem dX12_worked_50 : decode cX12_worked 50 = .ok (.invokestatic 136, 3) := by decide +kernel
theorem dX12_worked_53 : decode cX12_worked 53 = .ok (.ireturn, 1) := by decide +kernel
theorem dX12_worked_54 : decode cX12_worked 54 = .ok (.iload_n 1, 1) := by decide +kernel
theorem dX12_worked_55 : decode cX12_worked 55 = .ok (.iload_n 2, 1) := by decide +kernel
theorem dX12_worked_56 : decode cX12_worked 56 = .ok (.if_icmp .le 7, 3) := by decide +kernel
theorem dX12_worked_59 : decode cX12_worked 59 = .ok (.iconst 1, 1) := by decide +kernel
theorem dX12_worked_60 : decode cX12_worked 60 = .ok (.goto 4, 3) := by decide +kernel
theorem dX12_worked_63 : decode cX12_worked 63 = .ok (.iconst 0, 1) := by decide +kernel
theorem dX12_worked_64 : decode cX12_worked 64 = .ok (.invokestatic 136, 3) := by decide +kernel
theorem dX12_worked_67 : decode cX12_worked 67 = .ok (.ireturn, 1) := by decide +kernel
theorem dX12_worked_68 : decode cX12_worked 68 = .ok (.iload_n 1, 1) := by decide +kernel
theorem dX12_worked_69 : decode cX12_worked 69 = .ok (.iload_n 2, 1) := by decide +kernel
theorem dX12_worked_70 : decode cX12_worked 70 = .ok (.if_icmp .ne 7, 3) := by decide +kernel
theorem dX12_worked_73 : decode cX12_worked 73 = .ok (.iconst 1, 1) := by decide +kernel
theorem dX12_worked_74 : decode cX12_worked 74 = .ok (.goto 4, 3) := by decide +kernel
theorem dX12_worked_77 : decode cX12_worked 77 = .ok (.iconst 0, 1) := by decide +kernel
theorem dX12_worked_78 : decode cX12_worked 78 = .ok (.invokestatic 136, 3) := by decide +kernel
theorem dX12_worked_81 : decode cX12_worked 81 = .ok (.ireturn, 1) := by decide +kernel
theorem dX12_worked_82 : decode cX12_worked 82 = .ok (.iload_n 1, 1) := by decide +kernel
theorem dX12_worked_83 : decode cX12_worked 83 = .ok (.iload_n 2, 1) := by decide +kernel
theorem dX12_worked_84 : decode cX12_worked 84 = .ok (.iadd, 1) := by decide +kernel
theorem dX12_worked_85 : decode cX12_worked 85 = .ok (.ireturn, 1) := by decide +kernel
theorem dX12_worked_86 : decode cX12_worked 86 = .ok (.iload_n 1, 1) := by decide +kernel
theorem dX12_worked_87 : decode cX12_worked 87 = .ok (.iload_n 2, 1) := by decide +kernel
theorem dX12_worked_88 : decode cX12_worked 88 = .ok (.isub, 1) := by decide +kernel
theorem dX12_worked_89 : decode cX12_worked 89 = .ok (.ireturn, 1) := by decide +kernel
theorem dX12_worked_90 : decode cX12_worked 90 = .ok (.iload_n 1, 1) := by decide +kernel
theorem dX12_worked_91 : decode cX12_worked 91 = .ok (.iload_n 2, 1) := by decide +kernel
theorem dX12_worked_92 : decode cX12_worked 92 = .ok (.imul, 1) := by decide +kernel
theorem dX12_worked_93 : decode cX12_worked 93 = .ok (.ireturn, 1) := by decide +kernel
theorem dX12_worked_94 : decode cX12_worked 94 = .ok (.iload_n 2, 1) := by decide +kernel
theorem dX12_worked_95 : decode cX12_worked 95 = .ok (.ifCond .ne 7, 3) := by decide +kernel
theorem dX12_worked_98 : decode cX12_worked 98 = .ok (.iconst 0, 1) := by decide +kernel
theorem dX12_worked_99 : decode cX12_worked 99 = .ok (.goto 6, 3) := by decide +kernel
theorem dX12_worked_102 : decode cX12_worked 102 = .ok (.iload_n 1, 1) := by decide +kernel
theorem dX12_worked_103 : decode cX12_worked 103 = .ok (.iload_n 2, 1) := by decide +kernel
theorem dX12_worked_104 : decode cX12_worked 104 = .ok (.idiv, 1) := by decide +kernel
theorem dX12_worked_105 : decode cX12_worked 105 = .ok (.ireturn, 1) := by decide +kernel
theorem dX12_ruled_0 : decode cX12_ruled 0 = .ok (.iconst 0, 1) := by decide +kernel
theorem dX12_ruled_1 : decode cX12_ruled 1 = .ok (.istore_n 1, 1) := by decide +kernel
theorem dX12_ruled_2 : decode cX12_ruled 2 = .ok (.iconst 0, 1) := by decide +kernel
theorem dX12_ruled_3 : decode cX12_ruled 3 = .ok (.istore_n 2, 1) := by decide +kernel
theorem dX12_ruled_4 : decode cX12_ruled 4 = .ok (.iload_n 2, 1) := by decide +kernel
theorem dX12_ruled_5 : decode cX12_ruled 5 = .ok (.aload_n 0, 1) := by decide +kernel
theorem dX12_ruled_6 : decode cX12_ruled 6 = .ok (.getfield 227, 3) := by decide +kernel
theorem dX12_ruled_9 : decode cX12_ruled 9 = .ok (.if_icmp .ge 116, 3) := by decide +kernel
theorem dX12_ruled_12 : decode cX12_ruled 12 = .ok (.aload_n 0, 1) := by decide +kernel
theorem dX12_ruled_13 : decode cX12_ruled 13 = .ok (.getfield 48, 3) := by decide +kernel
theorem dX12_ruled_16 : decode cX12_ruled 16 = .ok (.iload_n 2, 1) := by decide +kernel
theorem dX12_ruled_17 : decode cX12_ruled 17 = .ok (.iaload, 1) := by decide +kernel
theorem dX12_ruled_18 : decode cX12_ruled 18 = .ok (.istore_n 3, 1) := by decide +kernel
theorem dX12_ruled_19 : decode cX12_ruled 19 = .ok (.iload_n 3, 1) := by decide +kernel
theorem dX12_ruled_20 : decode cX12_ruled 20 = .ok (.sipush 3000, 3) := by decide +kernel
theorem dX12_ruled_23 : decode cX12_ruled 23 = .ok (.if_icmp .ne 23, 3) := by decide +kernel
theorem dX12_ruled_26 : decode cX12_ruled 26 = .ok (.aload_n 0, 1) := by decide +kernel
theorem dX12_ruled_27 : decode cX12_ruled 27 = .ok (.getfield 54, 3) := by decide +kernel
theorem dX12_ruled_30 : decode cX12_ruled 30 = .ok (.iload_n 1, 1) := by decide +kernel
theorem dX12_ruled_31 : decode cX12_ruled 31 = .ok (.iconst 1, 1) := by decide +kernel
theorem dX12_ruled_32 : decode cX12_ruled 32 = .ok (.isub, 1) := by decide +kernel
theorem dX12_ruled_33 : decode cX12_ruled 33 = .ok (.aload_n 0, 1) := by decide +kernel
theorem dX12_ruled_34 : decode cX12_ruled 34 = .ok (.getfield 54, 3) := by decide +kernel
theorem dX12_ruled_37 : decode cX12_ruled 37 = .ok (.iload_n 1, 1) := by decide +kernel
theorem dX12_ruled_38 : decode cX12_ruled 38 = .ok (.iconst 1, 1) := by decide +kernel
theorem dX12_ruled_39 : decode cX12_ruled 39 = .ok (.isub, 1) := by decide +kernel
theorem dX12_ruled_40 : decode cX12_ruled 40 = .ok (.iaload, 1) := by decide +kernel
theorem dX12_ruled_41 : decode cX12_ruled 41 = .ok (.ineg, 1) := by decide +kernel
theorem dX12_ruled_42 : decode cX12_ruled 42 = .ok (.iastore, 1) := by decide +kernel
theorem dX12_ruled_43 : decode cX12_ruled 43 = .ok (.goto 76, 3) := by decide +kernel
theorem dX12_ruled_46 : decode cX12_ruled 46 = .ok (.iload_n 3, 1) := by decide +kernel
theorem dX12_ruled_47 : decode cX12_ruled 47 = .ok (.sipush 2000, 3) := by decide +kernel
theorem dX12_ruled_50 : decode cX12_ruled 50 = .ok (.if_icmp .lt 39, 3) := by decide +kernel
theorem dX12_ruled_53 : decode cX12_ruled 53 = .ok (.iinc 1 (-1), 3) := by decide +kernel
theorem dX12_ruled_56 : decode cX12_ruled 56 = .ok (.aload_n 0, 1) := by decide +kernel
theorem dX12_ruled_57 : decode cX12_ruled 57 = .ok (.getfield 54, 3) := by decide +kernel
theorem dX12_ruled_60 : decode cX12_ruled 60 = .ok (.iload_n 1, 1) := by decide +kernel
theorem dX12_ruled_61 : decode cX12_ruled 61 = .ok (.iconst 1, 1) := by decide +kernel
theorem dX12_ruled_62 : decode cX12_ruled 62 = .ok (.isub, 1) := by decide +kernel
theorem dX12_ruled_63 : decode cX12_ruled 63 = .ok (.iload_n 3, 1) := by decide +kernel
theorem dX12_ruled_64 : decode cX12_ruled 64 = .ok (.sipush 2000, 3) := by decide +kernel
theorem dX12_ruled_67 : decode cX12_ruled 67 = .ok (.isub, 1) := by decide +kernel
theorem dX12_ruled_68 : decode cX12_ruled 68 = .ok (.aload_n 0, 1) := by decide +kernel
theorem dX12_ruled_69 : decode cX12_ruled 69 = .ok (.getfield 54, 3) := by decide +kernel
theorem dX12_ruled_72 : decode cX12_ruled 72 = .ok (.iload_n 1, 1) := by decide +kernel
theorem dX12_ruled_73 : decode cX12_ruled 73 = .ok (.iconst 1, 1) := by decide +kernel
theorem dX12_ruled_74 : decode cX12_ruled 74 = .ok (.isub, 1) := by decide +kernel
theorem dX12_ruled_75 : decode cX12_ruled 75 = .ok (.iaload, 1) := by decide +kernel
theorem dX12_ruled_76 : decode cX12_ruled 76 = .ok (.aload_n 0, 1) := by decide +kernel
theorem dX12_ruled_77 : decode cX12_ruled 77 = .ok (.getfield 54, 3) := by decide +kernel
theorem dX12_ruled_80 : decode cX12_ruled 80 = .ok (.iload_n 1, 1) := by decide +kernel
theorem dX12_ruled_81 : decode cX12_ruled 81 = .ok (.iaload, 1) := by decide +kernel
theorem dX12_ruled_82 : decode cX12_ruled 82 = .ok (.invokestatic 237, 3) := by decide +kernel
theorem dX12_ruled_85 : decode cX12_ruled 85 = .ok (.iastore, 1) := by decide +kernel
theorem dX12_ruled_86 : decode cX12_ruled 86 = .ok (.goto 33, 3) := by decide +kernel
theorem dX12_ruled_89 : decode cX12_ruled 89 = .ok (.aload_n 0, 1) := by decide +kernel
theorem dX12_ruled_90 : decode cX12_ruled 90 = .ok (.getfield 54, 3) := by decide +kernel
theorem dX12_ruled_93 : decode cX12_ruled 93 = .ok (.iload_n 1, 1) := by decide +kernel
theorem dX12_ruled_94 : decode cX12_ruled 94 = .ok (.iload_n 3, 1) := by decide +kernel
theorem dX12_ruled_95 : decode cX12_ruled 95 = .ok (.sipush 1000, 3) := by decide +kernel
theorem dX12_ruled_98 : decode cX12_ruled 98 = .ok (.if_icmp .lt 16, 3) := by decide +kernel
theorem dX12_ruled_101 : decode cX12_ruled 101 = .ok (.aload_n 0, 1) := by decide +kernel
theorem dX12_ruled_102 : decode cX12_ruled 102 = .ok (.getfield 57, 3) := by decide +kernel
theorem dX12_ruled_105 : decode cX12_ruled 105 = .ok (.iload_n 3, 1) := by decide +kernel
theorem dX12_ruled_106 : decode cX12_ruled 106 = .ok (.sipush 1000, 3) := by decide +kernel
theorem dX12_ruled_109 : decode cX12_ruled 109 = .ok (.isub, 1) := by decide +kernel
theorem dX12_ruled_110 : decode cX12_ruled 110 = .ok (.iaload, 1) := by decide +kernel
theorem dX12_ruled_111 : decode cX12_ruled 111 = .ok (.goto 4, 3) := by decide +kernel
theorem dX12_ruled_114 : decode cX12_ruled 114 = .ok (.iload_n 3, 1) := by decide +kernel
theorem dX12_ruled_115 : decode cX12_ruled 115 = .ok (.iastore, 1) := by decide +kernel
theorem dX12_ruled_116 : decode cX12_ruled 116 = .ok (.iinc 1 1, 3) := by decide +kernel
theorem dX12_ruled_119 : decode cX12_ruled 119 = .ok (.iinc 2 1, 3) := by decide +kernel
theorem dX12_ruled_122 : decode cX12_ruled 122 = .ok (.goto (-118), 3) := by decide +kernel
theorem dX12_ruled_125 : decode cX12_ruled 125 = .ok (.aload_n 0, 1) := by decide +kernel
theorem dX12_ruled_126 : decode cX12_ruled 126 = .ok (.getfield 227, 3) := by decide +kernel
theorem dX12_ruled_129 : decode cX12_ruled 129 = .ok (.ifCond .ne 24, 3) := by decide +kernel
theorem dX12_ruled_132 : decode cX12_ruled 132 = .ok (.iconst 5, 1) := by decide +kernel
theorem dX12_ruled_133 : decode cX12_ruled 133 = .ok (.aload_n 0, 1) := by decide +kernel
theorem dX12_ruled_134 : decode cX12_ruled 134 = .ok (.getfield 57, 3) := by decide +kernel
theorem dX12_ruled_137 : decode cX12_ruled 137 = .ok (.iconst 0, 1) := by decide +kernel
theorem dX12_ruled_138 : decode cX12_ruled 138 = .ok (.iaload, 1) := by decide +kernel
theorem dX12_ruled_139 : decode cX12_ruled 139 = .ok (.imul, 1) := by decide +kernel
theorem dX12_ruled_140 : decode cX12_ruled 140 = .ok (.bipush 10, 2) := by decide +kernel
theorem dX12_ruled_142 : decode cX12_ruled 142 = .ok (.aload_n 0, 1) := by decide +kernel
theorem dX12_ruled_143 : decode cX12_ruled 143 = .ok (.getfield 57, 3) := by decide +kernel
theorem dX12_ruled_146 : decode cX12_ruled 146 = .ok (.iconst 1, 1) := by decide +kernel
theorem dX12_ruled_147 : decode cX12_ruled 147 = .ok (.iaload, 1) := by decide +kernel
theorem dX12_ruled_148 : decode cX12_ruled 148 = .ok (.imul, 1) := by decide +kernel
theorem dX12_ruled_149 : decode cX12_ruled 149 = .ok (.iadd, 1) := by decide +kernel
theorem dX12_ruled_150 : decode cX12_ruled 150 = .ok (.goto 9, 3) := by decide +kernel
theorem dX12_ruled_153 : decode cX12_ruled 153 = .ok (.aload_n 0, 1) := by decide +kernel
theorem dX12_ruled_154 : decode cX12_ruled 154 = .ok (.getfield 54, 3) := by decide +kernel
theorem dX12_ruled_157 : decode cX12_ruled 157 = .ok (.iconst 0, 1) := by decide +kernel
theorem dX12_ruled_158 : decode cX12_ruled 158 = .ok (.iaload, 1) := by decide +kernel
theorem dX12_ruled_159 : decode cX12_ruled 159 = .ok (.ireturn, 1) := by decide +kernel
theorem dX12_riskOf_0 : decode cX12_riskOf 0 = .ok (.iconst 0, 1) := by decide +kernel
theorem dX12_riskOf_1 : decode cX12_riskOf 1 = .ok (.istore 5, 2) := by decide +kernel
theorem dX12_riskOf_3 : decode cX12_riskOf 3 = .ok (.iconst 0, 1) := by decide +kernel
theorem dX12_riskOf_4 : decode cX12_riskOf 4 = .ok (.istore 6, 2) := by decide +kernel
theorem dX12_riskOf_6 : decode cX12_riskOf 6 = .ok (.iload 6, 2) := by decide +kernel
theorem dX12_riskOf_8 : decode cX12_riskOf 8 = .ok (.aload_n 0, 1) := by decide +kernel
theorem dX12_riskOf_9 : decode cX12_riskOf 9 = .ok (.getfield 13, 3) := by decide +kernel
theorem dX12_riskOf_12 : decode cX12_riskOf 12 = .ok (.if_icmp .ge 38, 3) := by decide +kernel
theorem dX12_riskOf_15 : decode cX12_riskOf 15 = .ok (.iload 5, 2) := by decide +kernel
theorem dX12_riskOf_17 : decode cX12_riskOf 17 = .ok (.iload 6, 2) := by decide +kernel
theorem dX12_riskOf_19 : decode cX12_riskOf 19 = .ok (.iload_n 3, 1) := by decide +kernel
theorem dX12_riskOf_20 : decode cX12_riskOf 20 = .ok (.if_icmp .eq 17, 3) := by decide +kernel
theorem dX12_riskOf_23 : decode cX12_riskOf 23 = .ok (.aload_n 1, 1) := by decide +kernel
theorem dX12_riskOf_24 : decode cX12_riskOf 24 = .ok (.bipush 12, 2) := by decide +kernel
theorem dX12_riskOf_26 : decode cX12_riskOf 26 = .ok (.iload 6, 2) := by decide +kernel
theorem dX12_riskOf_28 : decode cX12_riskOf 28 = .ok (.iadd, 1) := by decide +kernel
theorem dX12_riskOf_29 : decode cX12_riskOf 29 = .ok (.iaload, 1) := by decide +kernel
theorem dX12_riskOf_30 : decode cX12_riskOf 30 = .ok (.ifCond .le 7, 3) := by decide +kernel
theorem dX12_riskOf_33 : decode cX12_riskOf 33 = .ok (.iconst 1, 1) := by decide +kernel
theorem dX12_riskOf_34 : decode cX12_riskOf 34 = .ok (.goto 4, 3) := by decide +kernel
theorem dX12_riskOf_37 : decode cX12_riskOf 37 = .ok (.iconst 0, 1) := by decide +kernel
theorem dX12_riskOf_38 : decode cX12_riskOf 38 = .ok (.invokestatic 136, 3) := by decide +kernel
theorem dX12_riskOf_41 : decode cX12_riskOf 41 = .ok (.iadd, 1) := by decide +kernel
theorem dX12_riskOf_42 : decode cX12_riskOf 42 = .ok (.istore 5, 2) := by decide +kernel
theorem dX12_riskOf_44 : decode cX12_riskOf 44 = .ok (.iinc 6 1, 3) := by decide +kernel
theorem dX12_riskOf_47 : decode cX12_riskOf 47 = .ok (.goto (-41), 3) := by decide +kernel
theorem dX12_riskOf_50 : decode cX12_riskOf 50 = .ok (.aload_n 0, 1) := by decide +kernel
theorem dX12_riskOf_51 : decode cX12_riskOf 51 = .ok (.getfield 57, 3) := by decide +kernel
theorem dX12_riskOf_54 : decode cX12_riskOf 54 = .ok (.iconst 0, 1) := by decide +kernel
theorem dX12_riskOf_55 : decode cX12_riskOf 55 = .ok (.iload 4, 2) := by decide +kernel
theorem dX12_riskOf_57 : decode cX12_riskOf 57 = .ok (.iastore, 1) := by decide +kernel
theorem dX12_riskOf_58 : decode cX12_riskOf 58 = .ok (.aload_n 0, 1) := by decide +kernel
theorem dX12_riskOf_59 : decode cX12_riskOf 59 = .ok (.getfield 57, 3) := by decide +kernel
theorem dX12_riskOf_62 : decode cX12_riskOf 62 = .ok (.iconst 1, 1) := by decide +kernel
theorem dX12_riskOf_63 : decode cX12_riskOf 63 = .ok (.aload_n 1, 1) := by decide +kernel
theorem dX12_riskOf_64 : decode cX12_riskOf 64 = .ok (.bipush 12, 2) := by decide +kernel
theorem dX12_riskOf_66 : decode cX12_riskOf 66 = .ok (.iload_n 3, 1) := by decide +kernel
theorem dX12_riskOf_67 : decode cX12_riskOf 67 = .ok (.iadd, 1) := by decide +kernel
theorem dX12_riskOf_68 : decode cX12_riskOf 68 = .ok (.iaload, 1) := by decide +kernel
theorem dX12_riskOf_69 : decode cX12_riskOf 69 = .ok (.iastore, 1) := by decide +kernel
theorem dX12_riskOf_70 : decode cX12_riskOf 70 = .ok (.aload_n 0, 1) := by decide +kernel
theorem dX12_riskOf_71 : decode cX12_riskOf 71 = .ok (.getfield 57, 3) := by decide +kernel
theorem dX12_riskOf_74 : decode cX12_riskOf 74 = .ok (.iconst 2, 1) := by decide +kernel
theorem dX12_riskOf_75 : decode cX12_riskOf 75 = .ok (.aload_n 0, 1) := by decide +kernel
theorem dX12_riskOf_76 : decode cX12_riskOf 76 = .ok (.getfield 27, 3) := by decide +kernel
theorem dX12_riskOf_79 : decode cX12_riskOf 79 = .ok (.iload_n 2, 1) := by decide +kernel
theorem dX12_riskOf_80 : decode cX12_riskOf 80 = .ok (.iaload, 1) := by decide +kernel
theorem dX12_riskOf_81 : decode cX12_riskOf 81 = .ok (.iastore, 1) := by decide +kernel
theorem dX12_riskOf_82 : decode cX12_riskOf 82 = .ok (.aload_n 0, 1) := by decide +kernel
theorem dX12_riskOf_83 : decode cX12_riskOf 83 = .ok (.getfield 57, 3) := by decide +kernel
theorem dX12_riskOf_86 : decode cX12_riskOf 86 = .ok (.iconst 3, 1) := by decide +kernel
theorem dX12_riskOf_87 : decode cX12_riskOf 87 = .ok (.aload_n 1, 1) := by decide +kernel
theorem dX12_riskOf_88 : decode cX12_riskOf 88 = .ok (.bipush 27, 2) := by decide +kernel
theorem dX12_riskOf_90 : decode cX12_riskOf 90 = .ok (.iaload, 1) := by decide +kernel
theorem dX12_riskOf_91 : decode cX12_riskOf 91 = .ok (.bipush 8, 2) := by decide +kernel
theorem dX12_riskOf_93 : decode cX12_riskOf 93 = .ok (.irem, 1) := by decide +kernel
theorem dX12_riskOf_94 : decode cX12_riskOf 94 = .ok (.iastore, 1) := by decide +kernel
theorem dX12_riskOf_95 : decode cX12_riskOf 95 = .ok (.aload_n 0, 1) := by decide +kernel
theorem dX12_riskOf_96 : decode cX12_riskOf 96 = .ok (.getfield 57, 3) := by decide +kernel
theorem dX12_riskOf_99 : decode cX12_riskOf 99 = .ok (.iconst 4, 1) := by decide +kernel
theorem dX12_riskOf_100 : decode cX12_riskOf 100 = .ok (.iload 5, 2) := by decide +kernel
theorem dX12_riskOf_102 : decode cX12_riskOf 102 = .ok (.iastore, 1) := by decide +kernel
theorem dX12_riskOf_103 : decode cX12_riskOf 103 = .ok (.iconst 0, 1) := by decide +kernel
theorem dX12_riskOf_104 : decode cX12_riskOf 104 = .ok (.sipush 999, 3) := by decide +kernel
theorem dX12_riskOf_107 : decode cX12_riskOf 107 = .ok (.aload_n 0, 1) := by decide +kernel
theorem dX12_riskOf_108 : decode cX12_riskOf 108 = .ok (.invokevirtual 241, 3) := by decide +kernel
theorem dX12_riskOf_111 : decode cX12_riskOf 111 = .ok (.invokestatic 127, 3) := by decide +kernel
theorem dX12_riskOf_114 : decode cX12_riskOf 114 = .ok (.invokestatic 244, 3) := by decide +kernel
theorem dX12_riskOf_117 : decode cX12_riskOf 117 = .ok (.ireturn, 1) := by decide +kernel
theorem dX12_skyOf_0 : decode cX12_skyOf 0 = .ok (.aload_n 0, 1) := by decide +kernel
theorem dX12_skyOf_1 : decode cX12_skyOf 1 = .ok (.getfield 20, 3) := by decide +kernel
theorem dX12_skyOf_4 : decode cX12_skyOf 4 = .ok (.aload_n 1, 1) := by decide +kernel
theorem dX12_skyOf_5 : decode cX12_skyOf 5 = .ok (.bipush 27, 2) := by decide +kernel
theorem dX12_skyOf_7 : decode cX12_skyOf 7 = .ok (.iaload, 1) := by decide +kernel
theorem dX12_skyOf_8 : decode cX12_skyOf 8 = .ok (.aload_n 0, 1) := by decide +kernel
theorem dX12_skyOf_9 : decode cX12_skyOf 9 = .ok (.getfield 17, 3) := by decide +kernel
theorem dX12_skyOf_12 : decode cX12_skyOf 12 = .ok (.irem, 1) := by decide +kernel
theorem dX12_skyOf_13 : decode cX12_skyOf 13 = .ok (.iaload, 1) := by decide +kernel
theorem dX12_skyOf_14 : decode cX12_skyOf 14 = .ok (.ireturn, 1) := by decide +kernel
theorem dX12_dangerOf_0 : decode cX12_dangerOf 0 = .ok (.aload_n 0, 1) := by decide +kernel
theorem dX12_dangerOf_1 : decode cX12_dangerOf 1 = .ok (.getfield 24, 3) := by decide +kernel
theorem dX12_dangerOf_4 : decode cX12_dangerOf 4 = .ok (.iload_n 2, 1) := by decide +kernel
theorem dX12_dangerOf_5 : decode cX12_dangerOf 5 = .ok (.iaload, 1) := by decide +kernel
theorem dX12_dangerOf_6 : decode cX12_dangerOf 6 = .ok (.tableswitch 137 0 3 #[30, 54, 80, 111], 30) := by decide +kernel
theorem dX12_dangerOf_36 : decode cX12_dangerOf 36 = .ok (.aload_n 0, 1) := by decide +kernel
theorem dX12_dangerOf_37 : decode cX12_dangerOf 37 = .ok (.aload_n 1, 1) := by decide +kernel
theorem dX12_dangerOf_38 : decode cX12_dangerOf 38 = .ok (.iload_n 3, 1) := by decide +kernel
theorem dX12_dangerOf_39 : decode cX12_dangerOf 39 = .ok (.invokevirtual 247, 3) := by decide +kernel
theorem dX12_dangerOf_42 : decode cX12_dangerOf 42 = .ok (.ifCond .eq 7, 3) := by decide +kernel
theorem dX12_dangerOf_45 : decode cX12_dangerOf 45 = .ok (.iconst (-1), 1) := by decide +kernel
theorem dX12_dangerOf_46 : decode cX12_dangerOf 46 = .ok (.goto 13, 3) := by decide +kernel
theorem dX12_dangerOf_49 : decode cX12_dangerOf 49 = .ok (.aload_n 0, 1) := by decide +kernel
theorem dX12_dangerOf_50 : decode cX12_dangerOf 50 = .ok (.aload_n 1, 1) := by decide +kernel
theorem dX12_dangerOf_51 : decode cX12_dangerOf 51 = .ok (.iload_n 2, 1) := by decide +kernel
theorem dX12_dangerOf_52 : decode cX12_dangerOf 52 = .ok (.iload_n 3, 1) := by decide +kernel
theorem dX12_dangerOf_53 : decode cX12_dangerOf 53 = .ok (.aload_n 1, 1) := by decide +kernel
theorem dX12_dangerOf_54 : decode cX12_dangerOf 54 = .ok (.iload_n 3, 1) := by decide +kernel
theorem dX12_dangerOf_55 : decode cX12_dangerOf 55 = .ok (.iaload, 1) := by decide +kernel
theorem dX12_dangerOf_56 : decode cX12_dangerOf 56 = .ok (.invokevirtual 251, 3) := by decide +kernel
theorem dX12_dangerOf_59 : decode cX12_dangerOf 59 = .ok (.ireturn, 1) := by decide +kernel
theorem dX12_dangerOf_60 : decode cX12_dangerOf 60 = .ok (.aload_n 0, 1) := by decide +kernel
theorem dX12_dangerOf_61 : decode cX12_dangerOf 61 = .ok (.aload_n 1, 1) := by decide +kernel
theorem dX12_dangerOf_62 : decode cX12_dangerOf 62 = .ok (.iload_n 3, 1) := by decide +kernel
theorem dX12_dangerOf_63 : decode cX12_dangerOf 63 = .ok (.invokevirtual 247, 3) := by decide +kernel
theorem dX12_dangerOf_66 : decode cX12_dangerOf 66 = .ok (.ifCond .eq 7, 3) := by decide +kernel
theorem dX12_dangerOf_69 : decode cX12_dangerOf 69 = .ok (.iconst (-1), 1) := by decide +kernel
theorem dX12_dangerOf_70 : decode cX12_dangerOf 70 = .ok (.goto 15, 3) := by decide +kernel
theorem dX12_dangerOf_73 : decode cX12_dangerOf 73 = .ok (.aload_n 0, 1) := by decide +kernel
theorem dX12_dangerOf_74 : decode cX12_dangerOf 74 = .ok (.aload_n 1, 1) := by decide +kernel
theorem dX12_dangerOf_75 : decode cX12_dangerOf 75 = .ok (.iload_n 2, 1) := by decide +kernel
theorem dX12_dangerOf_76 : decode cX12_dangerOf 76 = .ok (.iload_n 3, 1) := by decide +kernel
theorem dX12_dangerOf_77 : decode cX12_dangerOf 77 = .ok (.aload_n 1, 1) := by decide +kernel
theorem dX12_dangerOf_78 : decode cX12_dangerOf 78 = .ok (.iload_n 3, 1) := by decide +kernel
theorem dX12_dangerOf_79 : decode cX12_dangerOf 79 = .ok (.iaload, 1) := by decide +kernel
theorem dX12_dangerOf_80 : decode cX12_dangerOf 80 = .ok (.iconst 2, 1) := by decide +kernel
theorem dX12_dangerOf_81 : decode cX12_dangerOf 81 = .ok (.idiv, 1) := by decide +kernel
theorem dX12_dangerOf_82 : decode cX12_dangerOf 82 = .ok (.invokevirtual 251, 3) := by decide +kernel
theorem dX12_dangerOf_85 : decode cX12_dangerOf 85 = .ok (.ireturn, 1) := by decide +kernel
theorem dX12_dangerOf_86 : decode cX12_dangerOf 86 = .ok (.aload_n 0, 1) := by decide +kernel
theorem dX12_dangerOf_87 : decode cX12_dangerOf 87 = .ok (.aload_n 1, 1) := by decide +kernel
theorem dX12_dangerOf_88 : decode cX12_dangerOf 88 = .ok (.iload_n 3, 1) := by decide +kernel
theorem dX12_dangerOf_89 : decode cX12_dangerOf 89 = .ok (.invokevirtual 247, 3) := by decide +kernel
theorem dX12_dangerOf_92 : decode cX12_dangerOf 92 = .ok (.ifCond .ne 12, 3) := by decide +kernel
theorem dX12_dangerOf_95 : decode cX12_dangerOf 95 = .ok (.aload_n 0, 1) := by decide +kernel
theorem dX12_dangerOf_96 : decode cX12_dangerOf 96 = .ok (.aload_n 1, 1) := by decide +kernel
theorem dX12_dangerOf_97 : decode cX12_dangerOf 97 = .ok (.invokevirtual 255, 3) := by decide +kernel
theorem dX12_dangerOf_100 : decode cX12_dangerOf 100 = .ok (.iconst 2, 1) := by decide +kernel
theorem dX12_dangerOf_101 : decode cX12_dangerOf 101 = .ok (.if_icmp .eq 7, 3) := by decide +kernel
theorem dX12_dangerOf_104 : decode cX12_dangerOf 104 = .ok (.iconst (-1), 1) := by decide +kernel
theorem dX12_dangerOf_105 : decode cX12_dangerOf 105 = .ok (.goto 11, 3) := by decide +kernel
theorem dX12_dangerOf_108 : decode cX12_dangerOf 108 = .ok (.aload_n 0, 1) := by decide +kernel
theorem dX12_dangerOf_109 : decode cX12_dangerOf 109 = .ok (.aload_n 1, 1) := by decide +kernel
theorem dX12_dangerOf_110 : decode cX12_dangerOf 110 = .ok (.iload_n 2, 1) := by decide +kernel
theorem dX12_dangerOf_111 : decode cX12_dangerOf 111 = .ok (.iload_n 3, 1) := by decide +kernel
theorem dX12_dangerOf_112 : decode cX12_dangerOf 112 = .ok (.iconst 0, 1) := by decide +kernel
theorem dX12_dangerOf_113 : decode cX12_dangerOf 113 = .ok (.invokevirtual 251, 3) := by decide +kernel
theorem dX12_dangerOf_116 : decode cX12_dangerOf 116 = .ok (.ireturn, 1) := by decide +kernel
theorem dX12_dangerOf_117 : decode cX12_dangerOf 117 = .ok (.aload_n 0, 1) := by decide +kernel
theorem dX12_dangerOf_118 : decode cX12_dangerOf 118 = .ok (.aload_n 1, 1) := by decide +kernel
theorem dX12_dangerOf_119 : decode cX12_dangerOf 119 = .ok (.iload_n 3, 1) := by decide +kernel
theorem dX12_dangerOf_120 : decode cX12_dangerOf 120 = .ok (.invokevirtual 247, 3) := by decide +kernel
theorem dX12_dangerOf_123 : decode cX12_dangerOf 123 = .ok (.ifCond .eq 18, 3) := by decide +kernel
theorem dX12_dangerOf_126 : decode cX12_dangerOf 126 = .ok (.aload_n 0, 1) := by decide +kernel
theorem dX12_dangerOf_127 : decode cX12_dangerOf 127 = .ok (.aload_n 1, 1) := by decide +kernel
theorem dX12_dangerOf_128 : decode cX12_dangerOf 128 = .ok (.iload_n 2, 1) := by decide +kernel
theorem dX12_dangerOf_129 : decode cX12_dangerOf 129 = .ok (.iload_n 3, 1) := by decide +kernel
theorem dX12_dangerOf_130 : decode cX12_dangerOf 130 = .ok (.aload_n 1, 1) := by decide +kernel
theorem dX12_dangerOf_131 : decode cX12_dangerOf 131 = .ok (.iload_n 3, 1) := by decide +kernel
theorem dX12_dangerOf_132 : decode cX12_dangerOf 132 = .ok (.iaload, 1) := by decide +kernel
theorem dX12_dangerOf_133 : decode cX12_dangerOf 133 = .ok (.invokevirtual 251, 3) := by decide +kernel
theorem dX12_dangerOf_136 : decode cX12_dangerOf 136 = .ok (.iconst 2, 1) := by decide +kernel
theorem dX12_dangerOf_137 : decode cX12_dangerOf 137 = .ok (.idiv, 1) := by decide +kernel
theorem dX12_dangerOf_138 : decode cX12_dangerOf 138 = .ok (.goto 4, 3) := by decide +kernel
theorem dX12_dangerOf_141 : decode cX12_dangerOf 141 = .ok (.iconst (-1), 1) := by decide +kernel
theorem dX12_dangerOf_142 : decode cX12_dangerOf 142 = .ok (.ireturn, 1) := by decide +kernel
theorem dX12_dangerOf_143 : decode cX12_dangerOf 143 = .ok (.iconst 2, 1) := by decide +kernel
theorem dX12_dangerOf_144 : decode cX12_dangerOf 144 = .ok (.aload_n 0, 1) := by decide +kernel
theorem dX12_dangerOf_145 : decode cX12_dangerOf 145 = .ok (.aload_n 1, 1) := by decide +kernel
theorem dX12_dangerOf_146 : decode cX12_dangerOf 146 = .ok (.invokevirtual 259, 3) := by decide +kernel
theorem dX12_dangerOf_149 : decode cX12_dangerOf 149 = .ok (.imul, 1) := by decide +kernel
theorem dX12_dangerOf_150 : decode cX12_dangerOf 150 = .ok (.ireturn, 1) := by decide +kernel
theorem dX12_easiest_0 : decode cX12_easiest 0 = .ok (.aload_n 0, 1) := by decide +kernel
theorem dX12_easiest_1 : decode cX12_easiest 1 = .ok (.iconst (-1), 1) := by decide +kernel
theorem dX12_easiest_2 : decode cX12_easiest 2 = .ok (.putfield 262, 3) := by decide +kernel
theorem dX12_easiest_5 : decode cX12_easiest 5 = .ok (.aload_n 0, 1) := by decide +kernel
theorem dX12_easiest_6 : decode cX12_easiest 6 = .ok (.iconst (-1), 1) := by decide +kernel
theorem dX12_easiest_7 : decode cX12_easiest 7 = .ok (.putfield 265, 3) := by decide +kernel
theorem dX12_easiest_10 : decode cX12_easiest 10 = .ok (.iconst 0, 1) := by decide +kernel
theorem dX12_easiest_11 : decode cX12_easiest 11 = .ok (.istore_n 3, 1) := by decide +kernel
theorem dX12_easiest_12 : decode cX12_easiest 12 = .ok (.iload_n 3, 1) := by decide +kernel
theorem dX12_easiest_13 : decode cX12_easiest 13 = .ok (.aload_n 0, 1) := by decide +kernel
theorem dX12_easiest_14 : decode cX12_easiest 14 = .ok (.getfield 13, 3) := by decide +kernel
theorem dX12_easiest_17 : decode cX12_easiest 17 = .ok (.if_icmp .ge 50, 3) := by decide +kernel
theorem dX12_easiest_20 : decode cX12_easiest 20 = .ok (.aload_n 0, 1) := by decide +kernel
theorem dX12_easiest_21 : decode cX12_easiest 21 = .ok (.aload_n 1, 1) := by decide +kernel
theorem dX12_easiest_22 : decode cX12_easiest 22 = .ok (.iload_n 2, 1) := by decide +kernel
theorem dX12_easiest_23 : decode cX12_easiest 23 = .ok (.iload_n 3, 1) := by decide +kernel
theorem dX12_easiest_24 : decode cX12_easiest 24 = .ok (.invokevirtual 268, 3) := by decide +kernel
theorem dX12_easiest_27 : decode cX12_easiest 27 = .ok (.istore 4, 2) := by decide +kernel
theorem dX12_easiest_29 : decode cX12_easiest 29 = .ok (.iload 4, 2) := by decide +kernel
theorem dX12_easiest_31 : decode cX12_easiest 31 = .ok (.ifCond .lt 30, 3) := by decide +kernel
theorem dX12_easiest_34 : decode cX12_easiest 34 = .ok (.aload_n 0, 1) := by decide +kernel
theorem dX12_easiest_35 : decode cX12_easiest 35 = .ok (.getfield 262, 3) := by decide +kernel
theorem dX12_easiest_38 : decode cX12_easiest 38 = .ok (.ifCond .lt 12, 3) := by decide +kernel
theorem dX12_easiest_41 : decode cX12_easiest 41 = .ok (.iload 4, 2) := by decide +kernel
theorem dX12_easiest_43 : decode cX12_easiest 43 = .ok (.aload_n 0, 1) := by decide +kernel
theorem dX12_easiest_44 : decode cX12_easiest 44 = .ok (.getfield 265, 3) := by decide +kernel
theorem dX12_easiest_47 : decode cX12_easiest 47 = .ok (.if_icmp .ge 14, 3) := by decide +kernel
theorem dX12_easiest_50 : decode cX12_easiest 50 = .ok (.aload_n 0, 1) := by decide +kernel
theorem dX12_easiest_51 : decode cX12_easiest 51 = .ok (.iload_n 3, 1) := by decide +kernel
theorem dX12_easiest_52 : decode cX12_easiest 52 = .ok (.putfield 262, 3) := by decide +kernel
theorem dX12_easiest_55 : decode cX12_easiest 55 = .ok (.aload_n 0, 1) := by decide +kernel
theorem dX12_easiest_56 : decode cX12_easiest 56 = .ok (.iload 4, 2) := by decide +kernel
theorem dX12_easiest_58 : decode cX12_easiest 58 = .ok (.putfield 265, 3) := by decide +kernel
theorem dX12_easiest_61 : decode cX12_easiest 61 = .ok (.iinc 3 1, 3) := by decide +kernel
theorem dX12_easiest_64 : decode cX12_easiest 64 = .ok (.goto (-52), 3) := by decide +kernel
theorem dX12_easiest_67 : decode cX12_easiest 67 = .ok (.aload_n 0, 1) := by decide +kernel
theorem dX12_easiest_68 : decode cX12_easiest 68 = .ok (.getfield 262, 3) := by decide +kernel
theorem dX12_easiest_71 : decode cX12_easiest 71 = .ok (.ireturn, 1) := by decide +kernel
theorem dX12_worthOf_0 : decode cX12_worthOf 0 = .ok (.aload_n 0, 1) := by decide +kernel
theorem dX12_worthOf_1 : decode cX12_worthOf 1 = .ok (.aload_n 1, 1) := by decide +kernel
theorem dX12_worthOf_2 : decode cX12_worthOf 2 = .ok (.iload_n 2, 1) := by decide +kernel
theorem dX12_worthOf_3 : decode cX12_worthOf 3 = .ok (.invokevirtual 272, 3) := by decide +kernel
theorem dX12_worthOf_6 : decode cX12_worthOf 6 = .ok (.istore_n 3, 1) := by decide +kernel
theorem dX12_worthOf_7 : decode cX12_worthOf 7 = .ok (.iload_n 3, 1) := by decide +kernel
theorem dX12_worthOf_8 : decode cX12_worthOf 8 = .ok (.ifCond .ge 7, 3) := by decide +kernel
theorem dX12_worthOf_11 : decode cX12_worthOf 11 = .ok (.iconst 0, 1) := by decide +kernel
theorem dX12_worthOf_12 : decode cX12_worthOf 12 = .ok (.goto 24, 3) := by decide +kernel
theorem dX12_worthOf_15 : decode cX12_worthOf 15 = .ok (.aload_n 0, 1) := by decide +kernel
theorem dX12_worthOf_16 : decode cX12_worthOf 16 = .ok (.getfield 27, 3) := by decide +kernel
theorem dX12_worthOf_19 : decode cX12_worthOf 19 = .ok (.iload_n 2, 1) := by decide +kernel
theorem dX12_worthOf_20 : decode cX12_worthOf 20 = .ok (.iaload, 1) := by decide +kernel
theorem dX12_worthOf_21 : decode cX12_worthOf 21 = .ok (.aload_n 1, 1) := by decide +kernel
theorem dX12_worthOf_22 : decode cX12_worthOf 22 = .ok (.bipush 26, 2) := by decide +kernel
theorem dX12_worthOf_24 : decode cX12_worthOf 24 = .ok (.iaload, 1) := by decide +kernel
theorem dX12_worthOf_25 : decode cX12_worthOf 25 = .ok (.aload_n 1, 1) := by decide +kernel
theorem dX12_worthOf_26 : decode cX12_worthOf 26 = .ok (.bipush 25, 2) := by decide +kernel
theorem dX12_worthOf_28 : decode cX12_worthOf 28 = .ok (.iaload, 1) := by decide +kernel
theorem dX12_worthOf_29 : decode cX12_worthOf 29 = .ok (.isub, 1) := by decide +kernel
theorem dX12_worthOf_30 : decode cX12_worthOf 30 = .ok (.imul, 1) := by decide +kernel
theorem dX12_worthOf_31 : decode cX12_worthOf 31 = .ok (.aload_n 0, 1) := by decide +kernel
theorem dX12_worthOf_32 : decode cX12_worthOf 32 = .ok (.getfield 265, 3) := by decide +kernel
theorem dX12_worthOf_35 : decode cX12_worthOf 35 = .ok (.isub, 1) := by decide +kernel
theorem dX12_worthOf_36 : decode cX12_worthOf 36 = .ok (.ireturn, 1) := by decide +kernel
theorem dX12_mile_0 : decode cX12_mile 0 = .ok (.aload_n 0, 1) := by decide +kernel
theorem dX12_mile_1 : decode cX12_mile 1 = .ok (.iconst 0, 1) := by decide +kernel
theorem dX12_mile_2 : decode cX12_mile 2 = .ok (.putfield 97, 3) := by decide +kernel
theorem dX12_mile_5 : decode cX12_mile 5 = .ok (.aload_n 0, 1) := by decide +kernel
theorem dX12_mile_6 : decode cX12_mile 6 = .ok (.iload_n 1, 1) := by decide +kernel
theorem dX12_mile_7 : decode cX12_mile 7 = .ok (.invokevirtual 276, 3) := by decide +kernel
theorem dX12_mile_10 : decode cX12_mile 10 = .ok (.ifCond .eq 15, 3) := by decide +kernel
theorem dX12_mile_13 : decode cX12_mile 13 = .ok (.iload_n 2, 1) := by decide +kernel
theorem dX12_mile_14 : decode cX12_mile 14 = .ok (.i2l, 1) := by decide +kernel
theorem dX12_mile_15 : decode cX12_mile 15 = .ok (.lconst 0, 1) := by decide +kernel
theorem dX12_mile_16 : decode cX12_mile 16 = .ok (.ldc2_w 279, 3) := by decide +kernel
theorem dX12_mile_19 : decode cX12_mile 19 = .ok (.invokestatic 107, 3) := by decide +kernel
theorem dX12_mile_22 : decode cX12_mile 22 = .ok (.ifCond .ne 8, 3) := by decide +kernel
theorem dX12_mile_25 : decode cX12_mile 25 = .ok (.aload_n 0, 1) := by decide +kernel
theorem dX12_mile_26 : decode cX12_mile 26 = .ok (.invokevirtual 281, 3) := by decide +kernel
theorem dX12_mile_29 : decode cX12_mile 29 = .ok (.ireturn, 1) := by decide +kernel
theorem dX12_mile_30 : decode cX12_mile 30 = .ok (.iload_n 2, 1) := by decide +kernel
theorem dX12_mile_31 : decode cX12_mile 31 = .ok (.ifCond .ne 12, 3) := by decide +kernel
theorem dX12_mile_34 : decode cX12_mile 34 = .ok (.aload_n 0, 1) := by decide +kernel
theorem dX12_mile_35 : decode cX12_mile 35 = .ok (.getfield 36, 3) := by decide +kernel
theorem dX12_mile_38 : decode cX12_mile 38 = .ok (.iload_n 1, 1) := by decide +kernel
theorem dX12_mile_39 : decode cX12_mile 39 = .ok (.iaload, 1) := by decide +kernel
theorem dX12_mile_40 : decode cX12_mile 40 = .ok (.goto 32, 3) := by decide +kernel
theorem dX12_mile_43 : decode cX12_mile 43 = .ok (.iload_n 2, 1) := by decide +kernel
theorem dX12_mile_44 : decode cX12_mile 44 = .ok (.iconst 1, 1) := by decide +kernel
theorem dX12_mile_45 : decode cX12_mile 45 = .ok (.if_icmp .ne 18, 3) := by decide +kernel
theorem dX12_mile_48 : decode cX12_mile 48 = .ok (.aload_n 0, 1) := by decide +kernel
theorem dX12_mile_49 : decode cX12_mile 49 = .ok (.aload_n 0, 1) := by decide +kernel
theorem dX12_mile_50 : decode cX12_mile 50 = .ok (.getfield 36, 3) := by decide +kernel
theorem dX12_mile_53 : decode cX12_mile 53 = .ok (.iload_n 1, 1) := by decide +kernel
theorem dX12_mile_54 : decode cX12_mile 54 = .ok (.invokevirtual 247, 3) := by decide +kernel
theorem dX12_mile_57 : decode cX12_mile 57 = .ok (.invokestatic 136, 3) := by decide +kernel
theorem dX12_mile_60 : decode cX12_mile 60 = .ok (.goto 12, 3) := by decide +kernel
theorem dX12_mile_63 : decode cX12_mile 63 = .ok (.aload_n 0, 1) := by decide +kernel
theorem dX12_mile_64 : decode cX12_mile 64 = .ok (.getfield 36, 3) := by decide +kernel
theorem dX12_mile_67 : decode cX12_mile 67 = .ok (.bipush 12, 2) := by decide +kernel
theorem dX12_mile_69 : decode cX12_mile 69 = .ok (.iload_n 1, 1) := by decide +kernel
theorem dX12_mile_70 : decode cX12_mile 70 = .ok (.iadd, 1) := by decide +kernel
theorem dX12_mile_71 : decode cX12_mile 71 = .ok (.iaload, 1) := by decide +kernel
theorem dX12_mile_72 : decode cX12_mile 72 = .ok (.ireturn, 1) := by decide +kernel
theorem dX12_carrier_0 : decode cX12_carrier 0 = .ok (.aload_n 0, 1) := by decide +kernel
theorem dX12_carrier_1 : decode cX12_carrier 1 = .ok (.iconst 0, 1) := by decide +kernel
theorem dX12_carrier_2 : decode cX12_carrier 2 = .ok (.putfield 97, 3) := by decide +kernel
theorem dX12_carrier_5 : decode cX12_carrier 5 = .ok (.aload_n 0, 1) := by decide +kernel
theorem dX12_carrier_6 : decode cX12_carrier 6 = .ok (.iload_n 1, 1) := by decide +kernel
theorem dX12_carrier_7 : decode cX12_carrier 7 = .ok (.invokevirtual 284, 3) := by decide +kernel
theorem dX12_carrier_10 : decode cX12_carrier 10 = .ok (.ifCond .eq 15, 3) := by decide +kernel
theorem dX12_carrier_13 : decode cX12_carrier 13 = .ok (.iload_n 2, 1) := by decide +kernel
theorem dX12_carrier_14 : decode cX12_carrier 14 = .ok (.i2l, 1) := by decide +kernel
theorem dX12_carrier_15 : decode cX12_carrier 15 = .ok (.lconst 0, 1) := by decide +kernel
theorem dX12_carrier_16 : decode cX12_carrier 16 = .ok (.ldc2_w 287, 3) := by decide +kernel
theorem dX12_carrier_19 : decode cX12_carrier 19 = .ok (.invokestatic 107, 3) := by decide +kernel
theorem dX12_carrier_22 : decode cX12_carrier 22 = .ok (.ifCond .ne 8, 3) := by decide +kernel
theorem dX12_carrier_25 : decode cX12_carrier 25 = .ok (.aload_n 0, 1) := by decide +kernel
theorem dX12_carrier_26 : decode cX12_carrier 26 = .ok (.invokevirtual 281, 3) := by decide +kernel
theorem dX12_carrier_29 : decode cX12_carrier 29 = .ok (.ireturn, 1) := by decide +kernel
theorem dX12_carrier_30 : decode cX12_carrier 30 = .ok (.aload_n 0, 1) := by decide +kernel
theorem dX12_carrier_31 : decode cX12_carrier 31 = .ok (.aload_n 0, 1) := by decide +kernel
theorem dX12_carrier_32 : decode cX12_carrier 32 = .ok (.getfield 36, 3) := by decide +kernel
theorem dX12_carrier_35 : decode cX12_carrier 35 = .ok (.iload_n 1, 1) := by decide +kernel
theorem dX12_carrier_36 : decode cX12_carrier 36 = .ok (.invokevirtual 272, 3) := by decide +kernel
theorem dX12_carrier_39 : decode cX12_carrier 39 = .ok (.istore_n 3, 1) := by decide +kernel
theorem dX12_carrier_40 : decode cX12_carrier 40 = .ok (.iload_n 2, 1) := by decide +kernel
theorem dX12_carrier_41 : decode cX12_carrier 41 = .ok (.tableswitch 59 0 2 #[27, 34, 41], 27) := by decide +kernel
theorem dX12_carrier_68 : decode cX12_carrier 68 = .ok (.aload_n 0, 1) := by decide +kernel
theorem dX12_carrier_69 : decode cX12_carrier 69 = .ok (.getfield 24, 3) := by decide +kernel
theorem dX12_carrier_72 : decode cX12_carrier 72 = .ok (.iload_n 1, 1) := by decide +kernel
theorem dX12_carrier_73 : decode cX12_carrier 73 = .ok (.iaload, 1) := by decide +kernel
theorem dX12_carrier_74 : decode cX12_carrier 74 = .ok (.ireturn, 1) := by decide +kernel
theorem dX12_carrier_75 : decode cX12_carrier 75 = .ok (.aload_n 0, 1) := by decide +kernel
theorem dX12_carrier_76 : decode cX12_carrier 76 = .ok (.getfield 27, 3) := by decide +kernel
theorem dX12_carrier_79 : decode cX12_carrier 79 = .ok (.iload_n 1, 1) := by decide +kernel
theorem dX12_carrier_80 : decode cX12_carrier 80 = .ok (.iaload, 1) := by decide +kernel
theorem dX12_carrier_81 : decode cX12_carrier 81 = .ok (.ireturn, 1) := by decide +kernel
theorem dX12_carrier_82 : decode cX12_carrier 82 = .ok (.aload_n 0, 1) := by decide +kernel
theorem dX12_carrier_83 : decode cX12_carrier 83 = .ok (.aload_n 0, 1) := by decide +kernel
theorem dX12_carrier_84 : decode cX12_carrier 84 = .ok (.getfield 36, 3) := by decide +kernel
theorem dX12_carrier_87 : decode cX12_carrier 87 = .ok (.iload_n 1, 1) := by decide +kernel
theorem dX12_carrier_88 : decode cX12_carrier 88 = .ok (.invokevirtual 289, 3) := by decide +kernel
theorem dX12_carrier_91 : decode cX12_carrier 91 = .ok (.ifCond .le 7, 3) := by decide +kernel
theorem dX12_carrier_94 : decode cX12_carrier 94 = .ok (.iload_n 3, 1) := by decide +kernel
theorem dX12_carrier_95 : decode cX12_carrier 95 = .ok (.goto 4, 3) := by decide +kernel
theorem dX12_carrier_98 : decode cX12_carrier 98 = .ok (.iconst (-1), 1) := by decide +kernel
theorem dX12_carrier_99 : decode cX12_carrier 99 = .ok (.ireturn, 1) := by decide +kernel
theorem dX12_carrier_100 : decode cX12_carrier 100 = .ok (.aload_n 0, 1) := by decide +kernel
theorem dX12_carrier_101 : decode cX12_carrier 101 = .ok (.getfield 265, 3) := by decide +kernel
theorem dX12_carrier_104 : decode cX12_carrier 104 = .ok (.ireturn, 1) := by decide +kernel
theorem dX12_mouth_0 : decode cX12_mouth 0 = .ok (.aload_n 0, 1) := by decide +kernel
theorem dX12_mouth_1 : decode cX12_mouth 1 = .ok (.iconst 0, 1) := by decide +kernel
theorem dX12_mouth_2 : decode cX12_mouth 2 = .ok (.putfield 97, 3) := by decide +kernel
theorem dX12_mouth_5 : decode cX12_mouth 5 = .ok (.iload_n 1, 1) := by decide +kernel
theorem dX12_mouth_6 : decode cX12_mouth 6 = .ok (.i2l, 1) := by decide +kernel
theorem dX12_mouth_7 : decode cX12_mouth 7 = .ok (.lconst 0, 1) := by decide +kernel
theorem dX12_mouth_8 : decode cX12_mouth 8 = .ok (.aload_n 0, 1) := by decide +kernel
theorem dX12_mouth_9 : decode cX12_mouth 9 = .ok (.getfield 200, 3) := by decide +kernel
theorem dX12_mouth_12 : decode cX12_mouth 12 = .ok (.iconst 1, 1) := by decide +kernel
theorem dX12_mouth_13 : decode cX12_mouth 13 = .ok (.isub, 1) := by decide +kernel
theorem dX12_mouth_14 : decode cX12_mouth 14 = .ok (.i2l, 1) := by decide +kernel
theorem dX12_mouth_15 : decode cX12_mouth 15 = .ok (.invokestatic 107, 3) := by decide +kernel
theorem dX12_mouth_18 : decode cX12_mouth 18 = .ok (.ifCond .eq 13, 3) := by decide +kernel
theorem dX12_mouth_21 : decode cX12_mouth 21 = .ok (.iload_n 2, 1) := by decide +kernel
theorem dX12_mouth_22 : decode cX12_mouth 22 = .ok (.i2l, 1) := by decide +kernel
theorem dX12_mouth_23 : decode cX12_mouth 23 = .ok (.lconst 0, 1) := by decide +kernel
theorem dX12_mouth_24 : decode cX12_mouth 24 = .ok (.lconst 1, 1) := by decide +kernel
theorem dX12_mouth_25 : decode cX12_mouth 25 = .ok (.invokestatic 107, 3) := by decide +kernel
theorem dX12_mouth_28 : decode cX12_mouth 28 = .ok (.ifCond .ne 8, 3) := by decide +kernel
theorem dX12_mouth_31 : decode cX12_mouth 31 = .ok (.aload_n 0, 1) := by decide +kernel
theorem dX12_mouth_32 : decode cX12_mouth 32 = .ok (.invokevirtual 281, 3) := by decide +kernel
theorem dX12_mouth_35 : decode cX12_mouth 35 = .ok (.ireturn, 1) := by decide +kernel
theorem dX12_mouth_36 : decode cX12_mouth 36 = .ok (.iload_n 2, 1) := by decide +kernel
theorem dX12_mouth_37 : decode cX12_mouth 37 = .ok (.ifCond .ne 12, 3) := by decide +kernel
theorem dX12_mouth_40 : decode cX12_mouth 40 = .ok (.aload_n 0, 1) := by decide +kernel
theorem dX12_mouth_41 : decode cX12_mouth 41 = .ok (.getfield 30, 3) := by decide +kernel
theorem dX12_mouth_44 : decode cX12_mouth 44 = .ok (.iload_n 1, 1) := by decide +kernel
theorem dX12_mouth_45 : decode cX12_mouth 45 = .ok (.iaload, 1) := by decide +kernel
theorem dX12_mouth_46 : decode cX12_mouth 46 = .ok (.goto 9, 3) := by decide +kernel
theorem dX12_mouth_49 : decode cX12_mouth 49 = .ok (.aload_n 0, 1) := by decide +kernel
theorem dX12_mouth_50 : decode cX12_mouth 50 = .ok (.getfield 33, 3) := by decide +kernel
theorem dX12_mouth_53 : decode cX12_mouth 53 = .ok (.iload_n 1, 1) := by decide +kernel
theorem dX12_mouth_54 : decode cX12_mouth 54 = .ok (.iaload, 1) := by decide +kernel
theorem dX12_mouth_55 : decode cX12_mouth 55 = .ok (.ireturn, 1) := by decide +kernel
theorem dX12_danger_0 : decode cX12_danger 0 = .ok (.aload_n 0, 1) := by decide +kernel
theorem dX12_danger_1 : decode cX12_danger 1 = .ok (.iconst 0, 1) := by decide +kernel
theorem dX12_danger_2 : decode cX12_danger 2 = .ok (.putfield 97, 3) := by decide +kernel
theorem dX12_danger_5 : decode cX12_danger 5 = .ok (.aload_n 0, 1) := by decide +kernel
theorem dX12_danger_6 : decode cX12_danger 6 = .ok (.iload_n 1, 1) := by decide +kernel
theorem dX12_danger_7 : decode cX12_danger 7 = .ok (.invokevirtual 284, 3) := by decide +kernel
theorem dX12_danger_10 : decode cX12_danger 10 = .ok (.ifCond .eq 11, 3) := by decide +kernel
theorem dX12_danger_13 : decode cX12_danger 13 = .ok (.aload_n 0, 1) := by decide +kernel
theorem dX12_danger_14 : decode cX12_danger 14 = .ok (.iload_n 2, 1) := by decide +kernel
theorem dX12_danger_15 : decode cX12_danger 15 = .ok (.invokevirtual 276, 3) := by decide +kernel
theorem dX12_danger_18 : decode cX12_danger 18 = .ok (.ifCond .ne 5, 3) := by decide +kernel
theorem dX12_danger_21 : decode cX12_danger 21 = .ok (.iconst (-1), 1) := by decide +kernel
theorem dX12_danger_22 : decode cX12_danger 22 = .ok (.ireturn, 1) := by decide +kernel
theorem dX12_danger_23 : decode cX12_danger 23 = .ok (.aload_n 0, 1) := by decide +kernel
theorem dX12_danger_24 : decode cX12_danger 24 = .ok (.aload_n 0, 1) := by decide +kernel
theorem dX12_danger_25 : decode cX12_danger 25 = .ok (.getfield 36, 3) := by decide +kernel
theorem dX12_danger_28 : decode cX12_danger 28 = .ok (.iload_n 1, 1) := by decide +kernel
theorem dX12_danger_29 : decode cX12_danger 29 = .ok (.iload_n 2, 1) := by decide +kernel
theorem dX12_danger_30 : decode cX12_danger 30 = .ok (.invokevirtual 268, 3) := by decide +kernel
theorem dX12_danger_33 : decode cX12_danger 33 = .ok (.istore_n 3, 1) := by decide +kernel
theorem dX12_danger_34 : decode cX12_danger 34 = .ok (.iload_n 3, 1) := by decide +kernel
theorem dX12_danger_35 : decode cX12_danger 35 = .ok (.ifCond .ge 8, 3) := by decide +kernel
theorem dX12_danger_38 : decode cX12_danger 38 = .ok (.bipush (-2), 2) := by decide +kernel
theorem dX12_danger_40 : decode cX12_danger 40 = .ok (.goto 4, 3) := by decide +kernel
theorem dX12_danger_43 : decode cX12_danger 43 = .ok (.iload_n 3, 1) := by decide +kernel
theorem dX12_danger_44 : decode cX12_danger 44 = .ok (.ireturn, 1) := by decide +kernel
theorem dX12_sheet_0 : decode cX12_sheet 0 = .ok (.aload_n 0, 1) := by decide +kernel
theorem dX12_sheet_1 : decode cX12_sheet 1 = .ok (.iconst 0, 1) := by decide +kernel
theorem dX12_sheet_2 : decode cX12_sheet 2 = .ok (.putfield 97, 3) := by decide +kernel
theorem dX12_sheet_5 : decode cX12_sheet 5 = .ok (.iload_n 1, 1) := by decide +kernel
theorem dX12_sheet_6 : decode cX12_sheet 6 = .ok (.i2l, 1) := by decide +kernel
theorem dX12_sheet_7 : decode cX12_sheet 7 = .ok (.lconst 0, 1) := by decide +kernel
theorem dX12_sheet_8 : decode cX12_sheet 8 = .ok (.ldc2_w 287, 3) := by decide +kernel
theorem dX12_sheet_11 : decode cX12_sheet 11 = .ok (.invokestatic 107, 3) := by decide +kernel
theorem dX12_sheet_14 : decode cX12_sheet 14 = .ok (.ifCond .eq 9, 3) := by decide +kernel
theorem dX12_sheet_17 : decode cX12_sheet 17 = .ok (.iload_n 2, 1) := by decide +kernel
theorem dX12_sheet_18 : decode cX12_sheet 18 = .ok (.bipush 12, 2) := by decide +kernel
theorem dX12_sheet_20 : decode cX12_sheet 20 = .ok (.if_icmp .le 5, 3) := by decide +kernel
theorem dX12_sheet_23 : decode cX12_sheet 23 = .ok (.iconst (-1), 1) := by decide +kernel
theorem dX12_sheet_24 : decode cX12_sheet 24 = .ok (.ireturn, 1) := by decide +kernel
theorem dX12_sheet_25 : decode cX12_sheet 25 = .ok (.iload_n 1, 1) := by decide +kernel
theorem dX12_sheet_26 : decode cX12_sheet 26 = .ok (.iconst 3, 1) := by decide +kernel
theorem dX12_sheet_27 : decode cX12_sheet 27 = .ok (.if_icmp .eq 10, 3) := by decide +kernel
theorem dX12_sheet_30 : decode cX12_sheet 30 = .ok (.iload_n 2, 1) := by decide +kernel
theorem dX12_sheet_31 : decode cX12_sheet 31 = .ok (.ifCond .ge 6, 3) := by decide +kernel
theorem dX12_sheet_34 : decode cX12_sheet 34 = .ok (.bipush (-2), 2) := by decide +kernel
theorem dX12_sheet_36 : decode cX12_sheet 36 = .ok (.ireturn, 1) := by decide +kernel
theorem dX12_sheet_37 : decode cX12_sheet 37 = .ok (.iconst 0, 1) := by decide +kernel
theorem dX12_sheet_38 : decode cX12_sheet 38 = .ok (.istore 5, 2) := by decide +kernel
theorem dX12_sheet_40 : decode cX12_sheet 40 = .ok (.iload_n 3, 1) := by decide +kernel
theorem dX12_sheet_41 : decode cX12_sheet 41 = .ok (.istore 6, 2) := by decide +kernel
theorem dX12_sheet_43 : decode cX12_sheet 43 = .ok (.iconst 0, 1) := by decide +kernel
theorem dX12_sheet_44 : decode cX12_sheet 44 = .ok (.istore 7, 2) := by decide +kernel
theorem dX12_sheet_46 : decode cX12_sheet 46 = .ok (.iload 7, 2) := by decide +kernel
theorem dX12_sheet_48 : decode cX12_sheet 48 = .ok (.aload_n 0, 1) := by decide +kernel
theorem dX12_sheet_49 : decode cX12_sheet 49 = .ok (.getfield 13, 3) := by decide +kernel
theorem dX12_sheet_52 : decode cX12_sheet 52 = .ok (.if_icmp .ge 86, 3) := by decide +kernel
theorem dX12_sheet_55 : decode cX12_sheet 55 = .ok (.iload_n 1, 1) := by decide +kernel
theorem dX12_sheet_56 : decode cX12_sheet 56 = .ok (.ifCond .ne 9, 3) := by decide +kernel
theorem dX12_sheet_59 : decode cX12_sheet 59 = .ok (.iload 6, 2) := by decide +kernel
theorem dX12_sheet_61 : decode cX12_sheet 61 = .ok (.i2b, 1) := by decide +kernel
theorem dX12_sheet_62 : decode cX12_sheet 62 = .ok (.goto 16, 3) := by decide +kernel
theorem dX12_sheet_65 : decode cX12_sheet 65 = .ok (.iload_n 1, 1) := by decide +kernel
theorem dX12_sheet_66 : decode cX12_sheet 66 = .ok (.iconst 1, 1) := by decide +kernel
theorem dX12_sheet_67 : decode cX12_sheet 67 = .ok (.if_icmp .ne 9, 3) := by decide +kernel
theorem dX12_sheet_70 : decode cX12_sheet 70 = .ok (.iload 6, 2) := by decide +kernel
theorem dX12_sheet_72 : decode cX12_sheet 72 = .ok (.i2s, 1) := by decide +kernel
theorem dX12_sheet_73 : decode cX12_sheet 73 = .ok (.goto 5, 3) := by decide +kernel
theorem dX12_sheet_76 : decode cX12_sheet 76 = .ok (.iload 6, 2) := by decide +kernel
theorem dX12_sheet_78 : decode cX12_sheet 78 = .ok (.istore 8, 2) := by decide +kernel
theorem dX12_sheet_80 : decode cX12_sheet 80 = .ok (.aload_n 0, 1) := by decide +kernel
theorem dX12_sheet_81 : decode cX12_sheet 81 = .ok (.getfield 36, 3) := by decide +kernel
theorem dX12_sheet_84 : decode cX12_sheet 84 = .ok (.iload 7, 2) := by decide +kernel
theorem dX12_sheet_86 : decode cX12_sheet 86 = .ok (.iload_n 1, 1) := by decide +kernel
theorem dX12_sheet_87 : decode cX12_sheet 87 = .ok (.iconst 3, 1) := by decide +kernel
theorem dX12_sheet_88 : decode cX12_sheet 88 = .ok (.if_icmp .eq 9, 3) := by decide +kernel
theorem dX12_sheet_91 : decode cX12_sheet 91 = .ok (.iload 7, 2) := by decide +kernel
theorem dX12_sheet_93 : decode cX12_sheet 93 = .ok (.iload_n 2, 1) := by decide +kernel
theorem dX12_sheet_94 : decode cX12_sheet 94 = .ok (.if_icmp .lt 7, 3) := by decide +kernel
theorem dX12_sheet_97 : decode cX12_sheet 97 = .ok (.iconst 0, 1) := by decide +kernel
theorem dX12_sheet_98 : decode cX12_sheet 98 = .ok (.goto 14, 3) := by decide +kernel
theorem dX12_sheet_101 : decode cX12_sheet 101 = .ok (.iconst 0, 1) := by decide +kernel
theorem dX12_sheet_102 : decode cX12_sheet 102 = .ok (.bipush 9, 2) := by decide +kernel
theorem dX12_sheet_104 : decode cX12_sheet 104 = .ok (.iload 8, 2) := by decide +kernel
theorem dX12_sheet_106 : decode cX12_sheet 106 = .ok (.invokestatic 127, 3) := by decide +kernel
theorem dX12_sheet_109 : decode cX12_sheet 109 = .ok (.invokestatic 244, 3) := by decide +kernel
theorem dX12_sheet_112 : decode cX12_sheet 112 = .ok (.iastore, 1) := by decide +kernel
theorem dX12_sheet_113 : decode cX12_sheet 113 = .ok (.iload 5, 2) := by decide +kernel
theorem dX12_sheet_115 : decode cX12_sheet 115 = .ok (.aload_n 0, 1) := by decide +kernel
theorem dX12_sheet_116 : decode cX12_sheet 116 = .ok (.getfield 36, 3) := by decide +kernel
theorem dX12_sheet_119 : decode cX12_sheet 119 = .ok (.iload 7, 2) := by decide +kernel
theorem dX12_sheet_121 : decode cX12_sheet 121 = .ok (.iaload, 1) := by decide +kernel
theorem dX12_sheet_122 : decode cX12_sheet 122 = .ok (.iadd, 1) := by decide +kernel
theorem dX12_sheet_123 : decode cX12_sheet 123 = .ok (.istore 5, 2) := by decide +kernel
theorem dX12_sheet_125 : decode cX12_sheet 125 = .ok (.iload 6, 2) := by decide +kernel
theorem dX12_sheet_127 : decode cX12_sheet 127 = .ok (.iload 4, 2) := by decide +kernel
theorem dX12_sheet_129 : decode cX12_sheet 129 = .ok (.iadd, 1) := by decide +kernel
theorem dX12_sheet_130 : decode cX12_sheet 130 = .ok (.istore 6, 2) := by decide +kernel
theorem dX12_sheet_132 : decode cX12_sheet 132 = .ok (.iinc 7 1, 3) := by decide +kernel
theorem dX12_sheet_135 : decode cX12_sheet 135 = .ok (.goto (-89), 3) := by decide +kernel
theorem dX12_sheet_138 : decode cX12_sheet 138 = .ok (.iload_n 1, 1) := by decide +kernel
theorem dX12_sheet_139 : decode cX12_sheet 139 = .ok (.iconst 3, 1) := by decide +kernel
theorem dX12_sheet_140 : decode cX12_sheet 140 = .ok (.if_icmp .ne 8, 3) := by decide +kernel
theorem dX12_sheet_143 : decode cX12_sheet 143 = .ok (.bipush (-3), 2) := by decide +kernel
theorem dX12_sheet_145 : decode cX12_sheet 145 = .ok (.goto 5, 3) := by decide +kernel
theorem dX12_sheet_148 : decode cX12_sheet 148 = .ok (.iload 5, 2) := by decide +kernel
theorem dX12_sheet_150 : decode cX12_sheet 150 = .ok (.ireturn, 1) := by decide +kernel
theorem dX12_putsBy_0 : decode cX12_putsBy 0 = .ok (.iconst 0, 1) := by decide +kernel
theorem dX12_putsBy_1 : decode cX12_putsBy 1 = .ok (.istore_n 1, 1) := by decide +kernel
theorem dX12_putsBy_2 : decode cX12_putsBy 2 = .ok (.iload_n 1, 1) := by decide +kernel
theorem dX12_putsBy_3 : decode cX12_putsBy 3 = .ok (.bipush 29, 2) := by decide +kernel
theorem dX12_putsBy_5 : decode cX12_putsBy 5 = .ok (.if_icmp .ge 29, 3) := by decide +kernel
theorem dX12_putsBy_8 : decode cX12_putsBy 8 = .ok (.aload_n 0, 1) := by decide +kernel
theorem dX12_putsBy_9 : decode cX12_putsBy 9 = .ok (.getfield 60, 3) := by decide +kernel
theorem dX12_putsBy_12 : decode cX12_putsBy 12 = .ok (.bipush 29, 2) := by decide +kernel
theorem dX12_putsBy_14 : decode cX12_putsBy 14 = .ok (.aload_n 0, 1) := by decide +kernel
theorem dX12_putsBy_15 : decode cX12_putsBy 15 = .ok (.getfield 181, 3) := by decide +kernel
theorem dX12_putsBy_18 : decode cX12_putsBy 18 = .ok (.imul, 1) := by decide +kernel
theorem dX12_putsBy_19 : decode cX12_putsBy 19 = .ok (.iload_n 1, 1) := by decide +kernel
theorem dX12_putsBy_20 : decode cX12_putsBy 20 = .ok (.iadd, 1) := by decide +kernel
theorem dX12_putsBy_21 : decode cX12_putsBy 21 = .ok (.aload_n 0, 1) := by decide +kernel
theorem dX12_putsBy_22 : decode cX12_putsBy 22 = .ok (.getfield 36, 3) := by decide +kernel
theorem dX12_putsBy_25 : decode cX12_putsBy 25 = .ok (.iload_n 1, 1) := by decide +kernel
theorem dX12_putsBy_26 : decode cX12_putsBy 26 = .ok (.iaload, 1) := by decide +kernel
theorem dX12_putsBy_27 : decode cX12_putsBy 27 = .ok (.iastore, 1) := by decide +kernel
theorem dX12_putsBy_28 : decode cX12_putsBy 28 = .ok (.iinc 1 1, 3) := by decide +kernel
theorem dX12_putsBy_31 : decode cX12_putsBy 31 = .ok (.goto (-29), 3) := by decide +kernel
theorem dX12_putsBy_34 : decode cX12_putsBy 34 = .ok (.return_, 1) := by decide +kernel
theorem dX12_adds_0 : decode cX12_adds 0 = .ok (.aload_n 0, 1) := by decide +kernel
theorem dX12_adds_1 : decode cX12_adds 1 = .ok (.dup, 1) := by decide +kernel
theorem dX12_adds_2 : decode cX12_adds 2 = .ok (.getfield 181, 3) := by decide +kernel
theorem dX12_adds_5 : decode cX12_adds 5 = .ok (.iconst 1, 1) := by decide +kernel
theorem dX12_adds_6 : decode cX12_adds 6 = .ok (.iadd, 1) := by decide +kernel
theorem dX12_adds_7 : decode cX12_adds 7 = .ok (.putfield 181, 3) := by decide +kernel
theorem dX12_adds_10 : decode cX12_adds 10 = .ok (.aload_n 0, 1) := by decide +kernel
theorem dX12_adds_11 : decode cX12_adds 11 = .ok (.getfield 181, 3) := by decide +kernel
theorem dX12_adds_14 : decode cX12_adds 14 = .ok (.bipush 15, 2) := by decide +kernel
theorem dX12_adds_16 : decode cX12_adds 16 = .ok (.if_icmp .le 43, 3) := by decide +kernel
theorem dX12_adds_19 : decode cX12_adds 19 = .ok (.iconst 0, 1) := by decide +kernel
theorem dX12_adds_20 : decode cX12_adds 20 = .ok (.istore_n 2, 1) := by decide +kernel
theorem dX12_adds_21 : decode cX12_adds 21 = .ok (.iload_n 2, 1) := by decide +kernel
theorem dX12_adds_22 : decode cX12_adds 22 = .ok (.sipush 435, 3) := by decide +kernel
theorem dX12_adds_25 : decode cX12_adds 25 = .ok (.if_icmp .ge 24, 3) := by decide +kernel
theorem dX12_adds_28 : decode cX12_adds 28 = .ok (.aload_n 0, 1) := by decide +kernel
theorem dX12_adds_29 : decode cX12_adds 29 = .ok (.getfield 60, 3) := by decide +kernel
theorem dX12_adds_32 : decode cX12_adds 32 = .ok (.iload_n 2, 1) := by decide +kernel
theorem dX12_adds_33 : decode cX12_adds 33 = .ok (.aload_n 0, 1) := by decide +kernel
theorem dX12_adds_34 : decode cX12_adds 34 = .ok (.getfield 60, 3) := by decide +kernel
theorem dX12_adds_37 : decode cX12_adds 37 = .ok (.iload_n 2, 1) := by decide +kernel
theorem dX12_adds_38 : decode cX12_adds 38 = .ok (.bipush 29, 2) := by decide +kernel
theorem dX12_adds_40 : decode cX12_adds 40 = .ok (.iadd, 1) := by decide +kernel
theorem dX12_adds_41 : decode cX12_adds 41 = .ok (.iaload, 1) := by decide +kernel
theorem dX12_adds_42 : decode cX12_adds 42 = .ok (.iastore, 1) := by decide +kernel
theorem dX12_adds_43 : decode cX12_adds 43 = .ok (.iinc 2 1, 3) := by decide +kernel
theorem dX12_adds_46 : decode cX12_adds 46 = .ok (.goto (-25), 3) := by decide +kernel
theorem dX12_adds_49 : decode cX12_adds 49 = .ok (.aload_n 0, 1) := by decide +kernel
theorem dX12_adds_50 : decode cX12_adds 50 = .ok (.dup, 1) := by decide +kernel
theorem dX12_adds_51 : decode cX12_adds 51 = .ok (.getfield 181, 3) := by decide +kernel
theorem dX12_adds_54 : decode cX12_adds 54 = .ok (.iconst 1, 1) := by decide +kernel
theorem dX12_adds_55 : decode cX12_adds 55 = .ok (.isub, 1) := by decide +kernel
theorem dX12_adds_56 : decode cX12_adds 56 = .ok (.putfield 181, 3) := by decide +kernel
theorem dX12_adds_59 : decode cX12_adds 59 = .ok (.iload_n 1, 1) := by decide +kernel
theorem dX12_adds_60 : decode cX12_adds 60 = .ok (.ireturn, 1) := by decide +kernel
theorem dX12_counts_0 : decode cX12_counts 0 = .ok (.iload_n 1, 1) := by decide +kernel
theorem dX12_counts_1 : decode cX12_counts 1 = .ok (.ifCond .ge 7, 3) := by decide +kernel
theorem dX12_counts_4 : decode cX12_counts 4 = .ok (.iload_n 1, 1) := by decide +kernel
theorem dX12_counts_5 : decode cX12_counts 5 = .ok (.goto 8, 3) := by decide +kernel
theorem dX12_counts_8 : decode cX12_counts 8 = .ok (.aload_n 0, 1) := by decide +kernel
theorem dX12_counts_9 : decode cX12_counts 9 = .ok (.iload_n 1, 1) := by decide +kernel
theorem dX12_counts_10 : decode cX12_counts 10 = .ok (.invokevirtual 292, 3) := by decide +kernel
theorem dX12_counts_13 : decode cX12_counts 13 = .ok (.ireturn, 1) := by decide +kernel
theorem dX12_undo_0 : decode cX12_undo 0 = .ok (.aload_n 0, 1) := by decide +kernel
theorem dX12_undo_1 : decode cX12_undo 1 = .ok (.iconst 0, 1) := by decide +kernel
theorem dX12_undo_2 : decode cX12_undo 2 = .ok (.putfield 97, 3) := by decide +kernel
theorem dX12_undo_5 : decode cX12_undo 5 = .ok (.aload_n 0, 1) := by decide +kernel
theorem dX12_undo_6 : decode cX12_undo 6 = .ok (.getfield 181, 3) := by decide +kernel
theorem dX12_undo_9 : decode cX12_undo 9 = .ok (.ifCond .ne 5, 3) := by decide +kernel
theorem dX12_undo_12 : decode cX12_undo 12 = .ok (.iconst (-1), 1) := by decide +kernel
theorem dX12_undo_13 : decode cX12_undo 13 = .ok (.ireturn, 1) := by decide +kernel
theorem dX12_undo_14 : decode cX12_undo 14 = .ok (.aload_n 0, 1) := by decide +kernel
theorem dX12_undo_15 : decode cX12_undo 15 = .ok (.dup, 1) := by decide +kernel
theorem dX12_undo_16 : decode cX12_undo 16 = .ok (.getfield 181, 3) := by decide +kernel
theorem dX12_undo_19 : decode cX12_undo 19 = .ok (.iconst 1, 1) := by decide +kernel
theorem dX12_undo_20 : decode cX12_undo 20 = .ok (.isub, 1) := by decide +kernel
theorem dX12_undo_21 : decode cX12_undo 21 = .ok (.putfield 181, 3) := by decide +kernel
theorem dX12_undo_24 : decode cX12_undo 24 = .ok (.iconst 0, 1) := by decide +kernel
theorem dX12_undo_25 : decode cX12_undo 25 = .ok (.istore_n 1, 1) := by decide +kernel
theorem dX12_undo_26 : decode cX12_undo 26 = .ok (.iload_n 1, 1) := by decide +kernel
theorem dX12_undo_27 : decode cX12_undo 27 = .ok (.bipush 29, 2) := by decide +kernel
theorem dX12_undo_29 : decode cX12_undo 29 = .ok (.if_icmp .ge 29, 3) := by decide +kernel
theorem dX12_undo_32 : decode cX12_undo 32 = .ok (.aload_n 0, 1) := by decide +kernel
theorem dX12_undo_33 : decode cX12_undo 33 = .ok (.getfield 36, 3) := by decide +kernel
theorem dX12_undo_36 : decode cX12_undo 36 = .ok (.iload_n 1, 1) := by decide +kernel
theorem dX12_undo_37 : decode cX12_undo 37 = .ok (.aload_n 0, 1) := by decide +kernel
theorem dX12_undo_38 : decode cX12_undo 38 = .ok (.getfield 60, 3) := by decide +kernel
theorem dX12_undo_41 : decode cX12_undo 41 = .ok (.bipush 29, 2) := by decide +kernel
theorem dX12_undo_43 : decode cX12_undo 43 = .ok (.aload_n 0, 1) := by decide +kernel
theorem dX12_undo_44 : decode cX12_undo 44 = .ok (.getfield 181, 3) := by decide +kernel
theorem dX12_undo_47 : decode cX12_undo 47 = .ok (.imul, 1) := by decide +kernel
theorem dX12_undo_48 : decode cX12_undo 48 = .ok (.iload_n 1, 1) := by decide +kernel
theorem dX12_undo_49 : decode cX12_undo 49 = .ok (.iadd, 1) := by decide +kernel
theorem dX12_undo_50 : decode cX12_undo 50 = .ok (.iaload, 1) := by decide +kernel
theorem dX12_undo_51 : decode cX12_undo 51 = .ok (.iastore, 1) := by decide +kernel
theorem dX12_undo_52 : decode cX12_undo 52 = .ok (.iinc 1 1, 3) := by decide +kernel
theorem dX12_undo_55 : decode cX12_undo 55 = .ok (.goto (-29), 3) := by decide +kernel
theorem dX12_undo_58 : decode cX12_undo 58 = .ok (.aload_n 0, 1) := by decide +kernel
theorem dX12_undo_59 : decode cX12_undo 59 = .ok (.getfield 181, 3) := by decide +kernel
theorem dX12_undo_62 : decode cX12_undo 62 = .ok (.ireturn, 1) := by decide +kernel
theorem dX12_crossings_0 : decode cX12_crossings 0 = .ok (.iconst 0, 1) := by decide +kernel
theorem dX12_crossings_1 : decode cX12_crossings 1 = .ok (.istore_n 3, 1) := by decide +kernel
theorem dX12_crossings_2 : decode cX12_crossings 2 = .ok (.iconst 0, 1) := by decide +kernel
theorem dX12_crossings_3 : decode cX12_crossings 3 = .ok (.istore 4, 2) := by decide +kernel
theorem dX12_crossings_5 : decode cX12_crossings 5 = .ok (.iload 4, 2) := by decide +kernel
theorem dX12_crossings_7 : decode cX12_crossings 7 = .ok (.bipush 12, 2) := by decide +kernel
theorem dX12_crossings_9 : decode cX12_crossings 9 = .ok (.if_icmp .ge 17, 3) := by decide +kernel
theorem dX12_crossings_12 : decode cX12_crossings 12 = .ok (.aload_n 0, 1) := by decide +kernel
theorem dX12_crossings_13 : decode cX12_crossings 13 = .ok (.getfield 63, 3) := by decide +kernel
theorem dX12_crossings_16 : decode cX12_crossings 16 = .ok (.iload 4, 2) := by decide +kernel
theorem dX12_crossings_18 : decode cX12_crossings 18 = .ok (.iconst 0, 1) := by decide +kernel
theorem dX12_crossings_19 : decode cX12_crossings 19 = .ok (.iastore, 1) := by decide +kernel
theorem dX12_crossings_20 : decode cX12_crossings 20 = .ok (.iinc 4 1, 3) := by decide +kernel
theorem dX12_crossings_23 : decode cX12_crossings 23 = .ok (.goto (-18), 3) := by decide +kernel
theorem dX12_crossings_26 : decode cX12_crossings 26 = .ok (.iconst 0, 1) := by decide +kernel
theorem dX12_crossings_27 : decode cX12_crossings 27 = .ok (.istore 4, 2) := by decide +kernel
theorem dX12_crossings_29 : decode cX12_crossings 29 = .ok (.iload 4, 2) := by decide +kernel
theorem dX12_crossings_31 : decode cX12_crossings 31 = .ok (.aload_n 0, 1) := by decide +kernel
theorem dX12_crossings_32 : decode cX12_crossings 32 = .ok (.getfield 111, 3) := by decide +kernel
theorem dX12_crossings_35 : decode cX12_crossings 35 = .ok (.if_icmp .ge 119, 3) := by decide +kernel
theorem dX12_crossings_38 : decode cX12_crossings 38 = .ok (.iload_n 2, 1) := by decide +kernel
theorem dX12_crossings_39 : decode cX12_crossings 39 = .ok (.iload 4, 2) := by decide +kernel
theorem dX12_crossings_41 : decode cX12_crossings 41 = .ok (.invokestatic 114, 3) := by decide +kernel
theorem dX12_crossings_44 : decode cX12_crossings 44 = .ok (.ifCond .ne 104, 3) := by decide +kernel
theorem dX12_crossings_47 : decode cX12_crossings 47 = .ok (.aload_n 0, 1) := by decide +kernel
theorem dX12_crossings_48 : decode cX12_crossings 48 = .ok (.aload_n 1, 1) := by decide +kernel
theorem dX12_crossings_49 : decode cX12_crossings 49 = .ok (.iload 4, 2) := by decide +kernel
theorem dX12_crossings_51 : decode cX12_crossings 51 = .ok (.invokevirtual 289, 3) := by decide +kernel
theorem dX12_crossings_54 : decode cX12_crossings 54 = .ok (.ifCond .le 94, 3) := by decide +kernel
theorem dX12_crossings_57 : decode cX12_crossings 57 = .ok (.aload_n 0, 1) := by decide +kernel
theorem dX12_crossings_58 : decode cX12_crossings 58 = .ok (.getfield 262, 3) := by decide +kernel
theorem dX12_crossings_61 : decode cX12_crossings 61 = .ok (.istore 5, 2) := by decide +kernel
theorem dX12_crossings_63 : decode cX12_crossings 63 = .ok (.iload_n 3, 1) := by decide +kernel
theorem dX12_crossings_64 : decode cX12_crossings 64 = .ok (.iconst 1, 1) := by decide +kernel
theorem dX12_crossings_65 : decode cX12_crossings 65 = .ok (.iload 4, 2) := by decide +kernel
theorem dX12_crossings_67 : decode cX12_crossings 67 = .ok (.ishl, 1) := by decide +kernel
theorem dX12_crossings_68 : decode cX12_crossings 68 = .ok (.ior, 1) := by decide +kernel
theorem dX12_crossings_69 : decode cX12_crossings 69 = .ok (.istore_n 3, 1) := by decide +kernel
theorem dX12_crossings_70 : decode cX12_crossings 70 = .ok (.aload_n 1, 1) := by decide +kernel
theorem dX12_crossings_71 : decode cX12_crossings 71 = .ok (.bipush 28, 2) := by decide +kernel
theorem dX12_crossings_73 : decode cX12_crossings 73 = .ok (.dup2, 1) := by decide +kernel
theorem dX12_crossings_74 : decode cX12_crossings 74 = .ok (.iaload, 1) := by decide +kernel
theorem dX12_crossings_75 : decode cX12_crossings 75 = .ok (.aload_n 0, 1) := by decide +kernel
theorem dX12_crossings_76 : decode cX12_crossings 76 = .ok (.getfield 27, 3) := by decide +kernel
theorem dX12_crossings_79 : decode cX12_crossings 79 = .ok (.iload 4, 2) := by decide +kernel
theorem dX12_crossings_81 : decode cX12_crossings 81 = .ok (.iaload, 1) := by decide +kernel
theorem dX12_crossings_82 : decode cX12_crossings 82 = .ok (.iadd, 1) := by decide +kernel
theorem dX12_crossings_83 : decode cX12_crossings 83 = .ok (.iastore, 1) := by decide +kernel
theorem dX12_crossings_84 : decode cX12_crossings 84 = .ok (.aload_n 0, 1) := by decide +kernel
theorem dX12_crossings_85 : decode cX12_crossings 85 = .ok (.getfield 63, 3) := by decide +kernel
theorem dX12_crossings_88 : decode cX12_crossings 88 = .ok (.iload 5, 2) := by decide +kernel
theorem dX12_crossings_90 : decode cX12_crossings 90 = .ok (.dup2, 1) := by decide +kernel
theorem dX12_crossings_91 : decode cX12_crossings 91 = .ok (.iaload, 1) := by decide +kernel
theorem dX12_crossings_92 : decode cX12_crossings 92 = .ok (.aload_n 0, 1) := by decide +kernel
theorem dX12_crossings_93 : decode cX12_crossings 93 = .ok (.getfield 24, 3) := by decide +kernel
theorem dX12_crossings_96 : decode cX12_crossings 96 = .ok (.iload 4, 2) := by decide +kernel
theorem dX12_crossings_98 : decode cX12_crossings 98 = .ok (.iaload, 1) := by decide +kernel
theorem dX12_crossings_99 : decode cX12_crossings 99 = .ok (.iconst 3, 1) := by decide +kernel
theorem dX12_crossings_100 : decode cX12_crossings 100 = .ok (.if_icmp .le 7, 3) := by decide +kernel
theorem dX12_crossings_103 : decode cX12_crossings 103 = .ok (.iconst 0, 1) := by decide +kernel
theorem dX12_crossings_104 : decode cX12_crossings 104 = .ok (.goto 10, 3) := by decide +kernel
theorem dX12_crossings_107 : decode cX12_crossings 107 = .ok (.aload_n 0, 1) := by decide +kernel
theorem dX12_crossings_108 : decode cX12_crossings 108 = .ok (.getfield 27, 3) := by decide +kernel
theorem dX12_crossings_111 : decode cX12_crossings 111 = .ok (.iload 4, 2) := by decide +kernel
theorem dX12_crossings_113 : decode cX12_crossings 113 = .ok (.iaload, 1) := by decide +kernel
theorem dX12_crossings_114 : decode cX12_crossings 114 = .ok (.iadd, 1) := by decide +kernel
theorem dX12_crossings_115 : decode cX12_crossings 115 = .ok (.iastore, 1) := by decide +kernel
theorem dX12_crossings_116 : decode cX12_crossings 116 = .ok (.aload_n 1, 1) := by decide +kernel
theorem dX12_crossings_117 : decode cX12_crossings 117 = .ok (.iload 5, 2) := by decide +kernel
theorem dX12_crossings_119 : decode cX12_crossings 119 = .ok (.aload_n 0, 1) := by decide +kernel
theorem dX12_crossings_120 : decode cX12_crossings 120 = .ok (.getfield 24, 3) := by decide +kernel
theorem dX12_crossings_123 : decode cX12_crossings 123 = .ok (.iload 4, 2) := by decide +kernel
theorem dX12_crossings_125 : decode cX12_crossings 125 = .ok (.iaload, 1) := by decide +kernel
theorem dX12_crossings_126 : decode cX12_crossings 126 = .ok (.iconst 1, 1) := by decide +kernel
theorem dX12_crossings_127 : decode cX12_crossings 127 = .ok (.if_icmp .ne 16, 3) := by decide +kernel
theorem dX12_crossings_130 : decode cX12_crossings 130 = .ok (.iconst 0, 1) := by decide +kernel
theorem dX12_crossings_131 : decode cX12_crossings 131 = .ok (.aload_n 1, 1) := by decide +kernel
theorem dX12_crossings_132 : decode cX12_crossings 132 = .ok (.iload 5, 2) := by decide +kernel
theorem dX12_crossings_134 : decode cX12_crossings 134 = .ok (.iaload, 1) := by decide +kernel
theorem dX12_crossings_135 : decode cX12_crossings 135 = .ok (.iconst 2, 1) := by decide +kernel
theorem dX12_crossings_136 : decode cX12_crossings 136 = .ok (.isub, 1) := by decide +kernel
theorem dX12_crossings_137 : decode cX12_crossings 137 = .ok (.invokestatic 244, 3) := by decide +kernel
theorem dX12_crossings_140 : decode cX12_crossings 140 = .ok (.goto 7, 3) := by decide +kernel
theorem dX12_crossings_143 : decode cX12_crossings 143 = .ok (.aload_n 1, 1) := by decide +kernel
theorem dX12_crossings_144 : decode cX12_crossings 144 = .ok (.iload 5, 2) := by decide +kernel
theorem dX12_crossings_146 : decode cX12_crossings 146 = .ok (.iaload, 1) := by decide +kernel
theorem dX12_crossings_147 : decode cX12_crossings 147 = .ok (.iastore, 1) := by decide +kernel
theorem dX12_crossings_148 : decode cX12_crossings 148 = .ok (.iinc 4 1, 3) := by decide +kernel
theorem dX12_crossings_151 : decode cX12_crossings 151 = .ok (.goto (-122), 3) := by decide +kernel
theorem dX12_crossings_154 : decode cX12_crossings 154 = .ok (.iload_n 3, 1) := by decide +kernel
theorem dX12_crossings_155 : decode cX12_crossings 155 = .ok (.ireturn, 1) := by decide +kernel
theorem dX12_weekGoes_0 : decode cX12_weekGoes 0 = .ok (.aload_n 0, 1) := by decide +kernel
theorem dX12_weekGoes_1 : decode cX12_weekGoes 1 = .ok (.aload_n 1, 1) := by decide +kernel
theorem dX12_weekGoes_2 : decode cX12_weekGoes 2 = .ok (.iconst 0, 1) := by decide +kernel
theorem dX12_weekGoes_3 : decode cX12_weekGoes 3 = .ok (.invokevirtual 295, 3) := by decide +kernel
theorem dX12_weekGoes_6 : decode cX12_weekGoes 6 = .ok (.istore_n 2, 1) := by decide +kernel
theorem dX12_weekGoes_7 : decode cX12_weekGoes 7 = .ok (.aload_n 0, 1) := by decide +kernel
theorem dX12_weekGoes_8 : decode cX12_weekGoes 8 = .ok (.aload_n 1, 1) := by decide +kernel
theorem dX12_weekGoes_9 : decode cX12_weekGoes 9 = .ok (.invokevirtual 255, 3) := by decide +kernel
theorem dX12_weekGoes_12 : decode cX12_weekGoes 12 = .ok (.istore_n 3, 1) := by decide +kernel
theorem dX12_weekGoes_13 : decode cX12_weekGoes 13 = .ok (.iconst 0, 1) := by decide +kernel
theorem dX12_weekGoes_14 : decode cX12_weekGoes 14 = .ok (.istore 4, 2) := by decide +kernel
theorem dX12_weekGoes_16 : decode cX12_weekGoes 16 = .ok (.iload 4, 2) := by decide +kernel
theorem dX12_weekGoes_18 : decode cX12_weekGoes 18 = .ok (.aload_n 0, 1) := by decide +kernel
theorem dX12_weekGoes_19 : decode cX12_weekGoes 19 = .ok (.getfield 13, 3) := by decide +kernel
theorem dX12_weekGoes_22 : decode cX12_weekGoes 22 = .ok (.if_icmp .ge 54, 3) := by decide +kernel
theorem dX12_weekGoes_25 : decode cX12_weekGoes 25 = .ok (.aload_n 1, 1) := by decide +kernel
theorem dX12_weekGoes_26 : decode cX12_weekGoes 26 = .ok (.iload 4, 2) := by decide +kernel
theorem dX12_weekGoes_28 : decode cX12_weekGoes 28 = .ok (.iload_n 3, 1) := by decide +kernel
theorem dX12_weekGoes_29 : decode cX12_weekGoes 29 = .ok (.iconst 1, 1) := by decide +kernel
theorem dX12_weekGoes_30 : decode cX12_weekGoes 30 = .ok (.if_icmp .ne 16, 3) := by decide +kernel
theorem dX12_weekGoes_33 : decode cX12_weekGoes 33 = .ok (.iconst 0, 1) := by decide +kernel
theorem dX12_weekGoes_34 : decode cX12_weekGoes 34 = .ok (.aload_n 1, 1) := by decide +kernel
theorem dX12_weekGoes_35 : decode cX12_weekGoes 35 = .ok (.iload 4, 2) := by decide +kernel
theorem dX12_weekGoes_37 : decode cX12_weekGoes 37 = .ok (.iaload, 1) := by decide +kernel
theorem dX12_weekGoes_38 : decode cX12_weekGoes 38 = .ok (.iconst 1, 1) := by decide +kernel
theorem dX12_weekGoes_39 : decode cX12_weekGoes 39 = .ok (.isub, 1) := by decide +kernel
theorem dX12_weekGoes_40 : decode cX12_weekGoes 40 = .ok (.invokestatic 244, 3) := by decide +kernel
theorem dX12_weekGoes_43 : decode cX12_weekGoes 43 = .ok (.goto 26, 3) := by decide +kernel
theorem dX12_weekGoes_46 : decode cX12_weekGoes 46 = .ok (.iload_n 3, 1) := by decide +kernel
theorem dX12_weekGoes_47 : decode cX12_weekGoes 47 = .ok (.iconst 2, 1) := by decide +kernel
theorem dX12_weekGoes_48 : decode cX12_weekGoes 48 = .ok (.if_icmp .ne 17, 3) := by decide +kernel
theorem dX12_weekGoes_51 : decode cX12_weekGoes 51 = .ok (.bipush 9, 2) := by decide +kernel
theorem dX12_weekGoes_53 : decode cX12_weekGoes 53 = .ok (.aload_n 1, 1) := by decide +kernel
theorem dX12_weekGoes_54 : decode cX12_weekGoes 54 = .ok (.iload 4, 2) := by decide +kernel
theorem dX12_weekGoes_56 : decode cX12_weekGoes 56 = .ok (.iaload, 1) := by decide +kernel
theorem dX12_weekGoes_57 : decode cX12_weekGoes 57 = .ok (.iconst 1, 1) := by decide +kernel
theorem dX12_weekGoes_58 : decode cX12_weekGoes 58 = .ok (.iadd, 1) := by decide +kernel
theorem dX12_weekGoes_59 : decode cX12_weekGoes 59 = .ok (.invokestatic 127, 3) := by decide +kernel
theorem dX12_weekGoes_62 : decode cX12_weekGoes 62 = .ok (.goto 7, 3) := by decide +kernel
theorem dX12_weekGoes_65 : decode cX12_weekGoes 65 = .ok (.aload_n 1, 1) := by decide +kernel
theorem dX12_weekGoes_66 : decode cX12_weekGoes 66 = .ok (.iload 4, 2) := by decide +kernel
theorem dX12_weekGoes_68 : decode cX12_weekGoes 68 = .ok (.iaload, 1) := by decide +kernel
theorem dX12_weekGoes_69 : decode cX12_weekGoes 69 = .ok (.iastore, 1) := by decide +kernel
theorem dX12_weekGoes_70 : decode cX12_weekGoes 70 = .ok (.iinc 4 1, 3) := by decide +kernel
theorem dX12_weekGoes_73 : decode cX12_weekGoes 73 = .ok (.goto (-57), 3) := by decide +kernel
theorem dX12_weekGoes_76 : decode cX12_weekGoes 76 = .ok (.iload_n 3, 1) := by decide +kernel
theorem dX12_weekGoes_77 : decode cX12_weekGoes 77 = .ok (.iconst 3, 1) := by decide +kernel
theorem dX12_weekGoes_78 : decode cX12_weekGoes 78 = .ok (.if_icmp .ne 15, 3) := by decide +kernel
theorem dX12_weekGoes_81 : decode cX12_weekGoes 81 = .ok (.aload_n 1, 1) := by decide +kernel
theorem dX12_weekGoes_82 : decode cX12_weekGoes 82 = .ok (.aload_n 1, 1) := by decide +kernel
theorem dX12_weekGoes_83 : decode cX12_weekGoes 83 = .ok (.bipush 27, 2) := by decide +kernel
theorem dX12_weekGoes_85 : decode cX12_weekGoes 85 = .ok (.iaload, 1) := by decide +kernel
theorem dX12_weekGoes_86 : decode cX12_weekGoes 86 = .ok (.aload_n 0, 1) := by decide +kernel
theorem dX12_weekGoes_87 : decode cX12_weekGoes 87 = .ok (.getfield 13, 3) := by decide +kernel
theorem dX12_weekGoes_90 : decode cX12_weekGoes 90 = .ok (.irem, 1) := by decide +kernel
theorem dX12_weekGoes_91 : decode cX12_weekGoes 91 = .ok (.iconst 0, 1) := by decide +kernel
theorem dX12_weekGoes_92 : decode cX12_weekGoes 92 = .ok (.iastore, 1) := by decide +kernel
theorem dX12_weekGoes_93 : decode cX12_weekGoes 93 = .ok (.aload_n 1, 1) := by decide +kernel
theorem dX12_weekGoes_94 : decode cX12_weekGoes 94 = .ok (.bipush 27, 2) := by decide +kernel
theorem dX12_weekGoes_96 : decode cX12_weekGoes 96 = .ok (.dup2, 1) := by decide +kernel
theorem dX12_weekGoes_97 : decode cX12_weekGoes 97 = .ok (.iaload, 1) := by decide +kernel
theorem dX12_weekGoes_98 : decode cX12_weekGoes 98 = .ok (.iconst 1, 1) := by decide +kernel
theorem dX12_weekGoes_99 : decode cX12_weekGoes 99 = .ok (.iadd, 1) := by decide +kernel
theorem dX12_weekGoes_100 : decode cX12_weekGoes 100 = .ok (.iastore, 1) := by decide +kernel
theorem dX12_weekGoes_101 : decode cX12_weekGoes 101 = .ok (.iload_n 2, 1) := by decide +kernel
theorem dX12_weekGoes_102 : decode cX12_weekGoes 102 = .ok (.ireturn, 1) := by decide +kernel
theorem dX12_goesOn_0 : decode cX12_goesOn 0 = .ok (.iconst 0, 1) := by decide +kernel
theorem dX12_goesOn_1 : decode cX12_goesOn 1 = .ok (.istore_n 3, 1) := by decide +kernel
theorem dX12_goesOn_2 : decode cX12_goesOn 2 = .ok (.iconst 0, 1) := by decide +kernel
theorem dX12_goesOn_3 : decode cX12_goesOn 3 = .ok (.istore 4, 2) := by decide +kernel
theorem dX12_goesOn_5 : decode cX12_goesOn 5 = .ok (.iload 4, 2) := by decide +kernel
theorem dX12_goesOn_7 : decode cX12_goesOn 7 = .ok (.iload_n 2, 1) := by decide +kernel
theorem dX12_goesOn_8 : decode cX12_goesOn 8 = .ok (.if_icmp .ge 17, 3) := by decide +kernel
theorem dX12_goesOn_11 : decode cX12_goesOn 11 = .ok (.iload_n 3, 1) := by decide +kernel
theorem dX12_goesOn_12 : decode cX12_goesOn 12 = .ok (.aload_n 0, 1) := by decide +kernel
theorem dX12_goesOn_13 : decode cX12_goesOn 13 = .ok (.aload_n 1, 1) := by decide +kernel
theorem dX12_goesOn_14 : decode cX12_goesOn 14 = .ok (.invokevirtual 298, 3) := by decide +kernel
theorem dX12_goesOn_17 : decode cX12_goesOn 17 = .ok (.ior, 1) := by decide +kernel
theorem dX12_goesOn_18 : decode cX12_goesOn 18 = .ok (.istore_n 3, 1) := by decide +kernel
theorem dX12_goesOn_19 : decode cX12_goesOn 19 = .ok (.iinc 4 1, 3) := by decide +kernel
theorem dX12_goesOn_22 : decode cX12_goesOn 22 = .ok (.goto (-17), 3) := by decide +kernel
theorem dX12_goesOn_25 : decode cX12_goesOn 25 = .ok (.iload_n 3, 1) := by decide +kernel
theorem dX12_goesOn_26 : decode cX12_goesOn 26 = .ok (.ireturn, 1) := by decide +kernel
theorem dX12_prices_0 : decode cX12_prices 0 = .ok (.iload_n 1, 1) := by decide +kernel
theorem dX12_prices_1 : decode cX12_prices 1 = .ok (.i2l, 1) := by decide +kernel
theorem dX12_prices_2 : decode cX12_prices 2 = .ok (.lconst 0, 1) := by decide +kernel
theorem dX12_prices_3 : decode cX12_prices 3 = .ok (.lconst 1, 1) := by decide +kernel
theorem dX12_prices_4 : decode cX12_prices 4 = .ok (.invokestatic 107, 3) := by decide +kernel
theorem dX12_prices_7 : decode cX12_prices 7 = .ok (.ifCond .eq 15, 3) := by decide +kernel
theorem dX12_prices_10 : decode cX12_prices 10 = .ok (.iload_n 2, 1) := by decide +kernel
theorem dX12_prices_11 : decode cX12_prices 11 = .ok (.i2l, 1) := by decide +kernel
theorem dX12_prices_12 : decode cX12_prices 12 = .ok (.lconst 0, 1) := by decide +kernel
theorem dX12_prices_13 : decode cX12_prices 13 = .ok (.ldc2_w 301, 3) := by decide +kernel
theorem dX12_prices_16 : decode cX12_prices 16 = .ok (.invokestatic 107, 3) := by decide +kernel
theorem dX12_prices_19 : decode cX12_prices 19 = .ok (.ifCond .ne 5, 3) := by decide +kernel
theorem dX12_prices_22 : decode cX12_prices 22 = .ok (.iconst (-1), 1) := by decide +kernel
theorem dX12_prices_23 : decode cX12_prices 23 = .ok (.ireturn, 1) := by decide +kernel
theorem dX12_prices_24 : decode cX12_prices 24 = .ok (.aload_n 0, 1) := by decide +kernel
theorem dX12_prices_25 : decode cX12_prices 25 = .ok (.getfield 36, 3) := by decide +kernel
theorem dX12_prices_28 : decode cX12_prices 28 = .ok (.bipush 25, 2) := by decide +kernel
theorem dX12_prices_30 : decode cX12_prices 30 = .ok (.iload_n 1, 1) := by decide +kernel
theorem dX12_prices_31 : decode cX12_prices 31 = .ok (.iadd, 1) := by decide +kernel
theorem dX12_prices_32 : decode cX12_prices 32 = .ok (.iaload, 1) := by decide +kernel
theorem dX12_prices_33 : decode cX12_prices 33 = .ok (.istore_n 3, 1) := by decide +kernel
theorem dX12_prices_34 : decode cX12_prices 34 = .ok (.aload_n 0, 1) := by decide +kernel
theorem dX12_prices_35 : decode cX12_prices 35 = .ok (.getfield 36, 3) := by decide +kernel
theorem dX12_prices_38 : decode cX12_prices 38 = .ok (.bipush 25, 2) := by decide +kernel
theorem dX12_prices_40 : decode cX12_prices 40 = .ok (.iload_n 1, 1) := by decide +kernel
theorem dX12_prices_41 : decode cX12_prices 41 = .ok (.iadd, 1) := by decide +kernel
theorem dX12_prices_42 : decode cX12_prices 42 = .ok (.iload_n 2, 1) := by decide +kernel
theorem dX12_prices_43 : decode cX12_prices 43 = .ok (.iastore, 1) := by decide +kernel
theorem dX12_prices_44 : decode cX12_prices 44 = .ok (.iload_n 3, 1) := by decide +kernel
theorem dX12_prices_45 : decode cX12_prices 45 = .ok (.ireturn, 1) := by decide +kernel
theorem dX12_guards_0 : decode cX12_guards 0 = .ok (.aload_n 0, 1) := by decide +kernel
theorem dX12_guards_1 : decode cX12_guards 1 = .ok (.iload_n 1, 1) := by decide +kernel
theorem dX12_guards_2 : decode cX12_guards 2 = .ok (.invokevirtual 276, 3) := by decide +kernel
theorem dX12_guards_5 : decode cX12_guards 5 = .ok (.ifCond .eq 15, 3) := by decide +kernel
theorem dX12_guards_8 : decode cX12_guards 8 = .ok (.iload_n 2, 1) := by decide +kernel
theorem dX12_guards_9 : decode cX12_guards 9 = .ok (.i2l, 1) := by decide +kernel
theorem dX12_guards_10 : decode cX12_guards 10 = .ok (.lconst 0, 1) := by decide +kernel
theorem dX12_guards_11 : decode cX12_guards 11 = .ok (.ldc2_w 303, 3) := by decide +kernel
theorem dX12_guards_14 : decode cX12_guards 14 = .ok (.invokestatic 107, 3) := by decide +kernel
theorem dX12_guards_17 : decode cX12_guards 17 = .ok (.ifCond .ne 5, 3) := by decide +kernel
theorem dX12_guards_20 : decode cX12_guards 20 = .ok (.iconst (-1), 1) := by decide +kernel
theorem dX12_guards_21 : decode cX12_guards 21 = .ok (.ireturn, 1) := by decide +kernel
theorem dX12_guards_22 : decode cX12_guards 22 = .ok (.aload_n 0, 1) := by decide +kernel
theorem dX12_guards_23 : decode cX12_guards 23 = .ok (.getfield 36, 3) := by decide +kernel
theorem dX12_guards_26 : decode cX12_guards 26 = .ok (.bipush 12, 2) := by decide +kernel
theorem dX12_guards_28 : decode cX12_guards 28 = .ok (.iload_n 1, 1) := by decide +kernel
theorem dX12_guards_29 : decode cX12_guards 29 = .ok (.iadd, 1) := by decide +kernel
theorem dX12_guards_30 : decode cX12_guards 30 = .ok (.iload_n 2, 1) := by decide +kernel
theorem dX12_guards_31 : decode cX12_guards 31 = .ok (.iastore, 1) := by decide +kernel
theorem dX12_guards_32 : decode cX12_guards 32 = .ok (.aload_n 0, 1) := by decide +kernel
theorem dX12_guards_33 : decode cX12_guards 33 = .ok (.aload_n 0, 1) := by decide +kernel
theorem dX12_guards_34 : decode cX12_guards 34 = .ok (.getfield 36, 3) := by decide +kernel
theorem dX12_guards_37 : decode cX12_guards 37 = .ok (.invokevirtual 259, 3) := by decide +kernel
theorem dX12_guards_40 : decode cX12_guards 40 = .ok (.ireturn, 1) := by decide +kernel
theorem dX12_plants_0 : decode cX12_plants 0 = .ok (.aload_n 0, 1) := by decide +kernel
theorem dX12_plants_1 : decode cX12_plants 1 = .ok (.iload_n 1, 1) := by decide +kernel
theorem dX12_plants_2 : decode cX12_plants 2 = .ok (.invokevirtual 276, 3) := by decide +kernel
theorem dX12_plants_5 : decode cX12_plants 5 = .ok (.ifCond .eq 15, 3) := by decide +kernel
theorem dX12_plants_8 : decode cX12_plants 8 = .ok (.iload_n 2, 1) := by decide +kernel
theorem dX12_plants_9 : decode cX12_plants 9 = .ok (.i2l, 1) := by decide +kernel
theorem dX12_plants_10 : decode cX12_plants 10 = .ok (.lconst 1, 1) := by decide +kernel
theorem dX12_plants_11 : decode cX12_plants 11 = .ok (.ldc2_w 303, 3) := by decide +kernel
theorem dX12_plants_14 : decode cX12_plants 14 = .ok (.invokestatic 107, 3) := by decide +kernel
theorem dX12_plants_17 : decode cX12_plants 17 = .ok (.ifCond .ne 5, 3) := by decide +kernel
theorem dX12_plants_20 : decode cX12_plants 20 = .ok (.iconst (-1), 1) := by decide +kernel
theorem dX12_plants_21 : decode cX12_plants 21 = .ok (.ireturn, 1) := by decide +kernel
theorem dX12_plants_22 : decode cX12_plants 22 = .ok (.aload_n 0, 1) := by decide +kernel
theorem dX12_plants_23 : decode cX12_plants 23 = .ok (.aload_n 0, 1) := by decide +kernel
theorem dX12_plants_24 : decode cX12_plants 24 = .ok (.getfield 36, 3) := by decide +kernel
theorem dX12_plants_27 : decode cX12_plants 27 = .ok (.iload_n 1, 1) := by decide +kernel
theorem dX12_plants_28 : decode cX12_plants 28 = .ok (.invokevirtual 247, 3) := by decide +kernel
theorem dX12_plants_31 : decode cX12_plants 31 = .ok (.ifCond .eq 6, 3) := by decide +kernel
theorem dX12_plants_34 : decode cX12_plants 34 = .ok (.bipush (-2), 2) := by decide +kernel
theorem dX12_plants_36 : decode cX12_plants 36 = .ok (.ireturn, 1) := by decide +kernel
theorem dX12_plants_37 : decode cX12_plants 37 = .ok (.aload_n 0, 1) := by decide +kernel
theorem dX12_plants_38 : decode cX12_plants 38 = .ok (.getfield 36, 3) := by decide +kernel
theorem dX12_plants_41 : decode cX12_plants 41 = .ok (.iload_n 1, 1) := by decide +kernel
theorem dX12_plants_42 : decode cX12_plants 42 = .ok (.bipush 9, 2) := by decide +kernel
theorem dX12_plants_44 : decode cX12_plants 44 = .ok (.aload_n 0, 1) := by decide +kernel
theorem dX12_plants_45 : decode cX12_plants 45 = .ok (.getfield 36, 3) := by decide +kernel
theorem dX12_plants_48 : decode cX12_plants 48 = .ok (.iload_n 1, 1) := by decide +kernel
theorem dX12_plants_49 : decode cX12_plants 49 = .ok (.iaload, 1) := by decide +kernel
theorem dX12_plants_50 : decode cX12_plants 50 = .ok (.iload_n 2, 1) := by decide +kernel
theorem dX12_plants_51 : decode cX12_plants 51 = .ok (.iadd, 1) := by decide +kernel
theorem dX12_plants_52 : decode cX12_plants 52 = .ok (.invokestatic 127, 3) := by decide +kernel
theorem dX12_plants_55 : decode cX12_plants 55 = .ok (.iastore, 1) := by decide +kernel
theorem dX12_plants_56 : decode cX12_plants 56 = .ok (.aload_n 0, 1) := by decide +kernel
theorem dX12_plants_57 : decode cX12_plants 57 = .ok (.getfield 36, 3) := by decide +kernel
theorem dX12_plants_60 : decode cX12_plants 60 = .ok (.iload_n 1, 1) := by decide +kernel
theorem dX12_plants_61 : decode cX12_plants 61 = .ok (.iaload, 1) := by decide +kernel
theorem dX12_plants_62 : decode cX12_plants 62 = .ok (.ireturn, 1) := by decide +kernel
theorem dX12_gates_0 : decode cX12_gates 0 = .ok (.aload_n 0, 1) := by decide +kernel
theorem dX12_gates_1 : decode cX12_gates 1 = .ok (.iload_n 1, 1) := by decide +kernel
theorem dX12_gates_2 : decode cX12_gates 2 = .ok (.invokevirtual 276, 3) := by decide +kernel
theorem dX12_gates_5 : decode cX12_gates 5 = .ok (.ifCond .ne 5, 3) := by decide +kernel
theorem dX12_gates_8 : decode cX12_gates 8 = .ok (.iconst (-1), 1) := by decide +kernel
theorem dX12_gates_9 : decode cX12_gates 9 = .ok (.ireturn, 1) := by decide +kernel
theorem dX12_gates_10 : decode cX12_gates 10 = .ok (.aload_n 0, 1) := by decide +kernel
theorem dX12_gates_11 : decode cX12_gates 11 = .ok (.getfield 36, 3) := by decide +kernel
theorem dX12_gates_14 : decode cX12_gates 14 = .ok (.iload_n 1, 1) := by decide +kernel
theorem dX12_gates_15 : decode cX12_gates 15 = .ok (.aload_n 0, 1) := by decide +kernel
theorem dX12_gates_16 : decode cX12_gates 16 = .ok (.aload_n 0, 1) := by decide +kernel
theorem dX12_gates_17 : decode cX12_gates 17 = .ok (.getfield 36, 3) := by decide +kernel
theorem dX12_gates_20 : decode cX12_gates 20 = .ok (.iload_n 1, 1) := by decide +kernel
theorem dX12_gates_21 : decode cX12_gates 21 = .ok (.invokevirtual 247, 3) := by decide +kernel
theorem dX12_gates_24 : decode cX12_gates 24 = .ok (.ifCond .eq 12, 3) := by decide +kernel
theorem dX12_gates_27 : decode cX12_gates 27 = .ok (.aload_n 0, 1) := by decide +kernel
theorem dX12_gates_28 : decode cX12_gates 28 = .ok (.getfield 36, 3) := by decide +kernel
theorem dX12_gates_31 : decode cX12_gates 31 = .ok (.iload_n 1, 1) := by decide +kernel
theorem dX12_gates_32 : decode cX12_gates 32 = .ok (.iaload, 1) := by decide +kernel
theorem dX12_gates_33 : decode cX12_gates 33 = .ok (.goto 4, 3) := by decide +kernel
theorem dX12_gates_36 : decode cX12_gates 36 = .ok (.iconst 0, 1) := by decide +kernel
theorem dX12_gates_37 : decode cX12_gates 37 = .ok (.iastore, 1) := by decide +kernel
theorem dX12_gates_38 : decode cX12_gates 38 = .ok (.aload_n 0, 1) := by decide +kernel
theorem dX12_gates_39 : decode cX12_gates 39 = .ok (.getfield 36, 3) := by decide +kernel
theorem dX12_gates_42 : decode cX12_gates 42 = .ok (.bipush 24, 2) := by decide +kernel
theorem dX12_gates_44 : decode cX12_gates 44 = .ok (.dup2, 1) := by decide +kernel
theorem dX12_gates_45 : decode cX12_gates 45 = .ok (.iaload, 1) := by decide +kernel
theorem dX12_gates_46 : decode cX12_gates 46 = .ok (.iconst 1, 1) := by decide +kernel
theorem dX12_gates_47 : decode cX12_gates 47 = .ok (.iload_n 1, 1) := by decide +kernel
theorem dX12_gates_48 : decode cX12_gates 48 = .ok (.ishl, 1) := by decide +kernel
theorem dX12_gates_49 : decode cX12_gates 49 = .ok (.ixor, 1) := by decide +kernel
theorem dX12_gates_50 : decode cX12_gates 50 = .ok (.iastore, 1) := by decide +kernel
theorem dX12_gates_51 : decode cX12_gates 51 = .ok (.aload_n 0, 1) := by decide +kernel
theorem dX12_gates_52 : decode cX12_gates 52 = .ok (.getfield 36, 3) := by decide +kernel
theorem dX12_gates_55 : decode cX12_gates 55 = .ok (.bipush 24, 2) := by decide +kernel
theorem dX12_gates_57 : decode cX12_gates 57 = .ok (.iaload, 1) := by decide +kernel
theorem dX12_gates_58 : decode cX12_gates 58 = .ok (.invokestatic 305, 3) := by decide +kernel
theorem dX12_gates_61 : decode cX12_gates 61 = .ok (.ireturn, 1) := by decide +kernel
theorem dX12_price_0 : decode cX12_price 0 = .ok (.aload_n 0, 1) := by decide +kernel
theorem dX12_price_1 : decode cX12_price 1 = .ok (.iconst 0, 1) := by decide +kernel
theorem dX12_price_2 : decode cX12_price 2 = .ok (.putfield 97, 3) := by decide +kernel
theorem dX12_price_5 : decode cX12_price 5 = .ok (.aload_n 0, 1) := by decide +kernel
theorem dX12_price_6 : decode cX12_price 6 = .ok (.invokevirtual 310, 3) := by decide +kernel
theorem dX12_price_9 : decode cX12_price 9 = .ok (.aload_n 0, 1) := by decide +kernel
theorem dX12_price_10 : decode cX12_price 10 = .ok (.aload_n 0, 1) := by decide +kernel
theorem dX12_price_11 : decode cX12_price 11 = .ok (.iload_n 1, 1) := by decide +kernel
theorem dX12_price_12 : decode cX12_price 12 = .ok (.iload_n 2, 1) := by decide +kernel
theorem dX12_price_13 : decode cX12_price 13 = .ok (.invokevirtual 313, 3) := by decide +kernel
theorem dX12_price_16 : decode cX12_price 16 = .ok (.invokevirtual 316, 3) := by decide +kernel
theorem dX12_price_19 : decode cX12_price 19 = .ok (.ireturn, 1) := by decide +kernel
theorem dX12_guard_0 : decode cX12_guard 0 = .ok (.aload_n 0, 1) := by decide +kernel
theorem dX12_guard_1 : decode cX12_guard 1 = .ok (.iconst 0, 1) := by decide +kernel
theorem dX12_guard_2 : decode cX12_guard 2 = .ok (.putfield 97, 3) := by decide +kernel
theorem dX12_guard_5 : decode cX12_guard 5 = .ok (.aload_n 0, 1) := by decide +kernel
theorem dX12_guard_6 : decode cX12_guard 6 = .ok (.invokevirtual 310, 3) := by decide +kernel
theorem dX12_guard_9 : decode cX12_guard 9 = .ok (.aload_n 0, 1) := by decide +kernel
theorem dX12_guard_10 : decode cX12_guard 10 = .ok (.aload_n 0, 1) := by decide +kernel
theorem dX12_guard_11 : decode cX12_guard 11 = .ok (.iload_n 1, 1) := by decide +kernel
theorem dX12_guard_12 : decode cX12_guard 12 = .ok (.iload_n 2, 1) := by decide +kernel
theorem dX12_guard_13 : decode cX12_guard 13 = .ok (.invokevirtual 319, 3) := by decide +kernel
theorem dX12_guard_16 : decode cX12_guard 16 = .ok (.invokevirtual 316, 3) := by decide +kernel
theorem dX12_guard_19 : decode cX12_guard 19 = .ok (.ireturn, 1) := by decide +kernel
theorem dX12_plant_0 : decode cX12_plant 0 = .ok (.aload_n 0, 1) := by decide +kernel
theorem dX12_plant_1 : decode cX12_plant 1 = .ok (.iconst 0, 1) := by decide +kernel
theorem dX12_plant_2 : decode cX12_plant 2 = .ok (.putfield 97, 3) := by decide +kernel
theorem dX12_plant_5 : decode cX12_plant 5 = .ok (.aload_n 0, 1) := by decide +kernel
theorem dX12_plant_6 : decode cX12_plant 6 = .ok (.invokevirtual 310, 3) := by decide +kernel
theorem dX12_plant_9 : decode cX12_plant 9 = .ok (.aload_n 0, 1) := by decide +kernel
theorem dX12_plant_10 : decode cX12_plant 10 = .ok (.aload_n 0, 1) := by decide +kernel
theorem dX12_plant_11 : decode cX12_plant 11 = .ok (.iload_n 1, 1) := by decide +kernel
theorem dX12_plant_12 : decode cX12_plant 12 = .ok (.iload_n 2, 1) := by decide +kernel
theorem dX12_plant_13 : decode cX12_plant 13 = .ok (.invokevirtual 322, 3) := by decide +kernel
theorem dX12_plant_16 : decode cX12_plant 16 = .ok (.invokevirtual 316, 3) := by decide +kernel
theorem dX12_plant_19 : decode cX12_plant 19 = .ok (.ireturn, 1) := by decide +kernel
theorem dX12_gate_0 : decode cX12_gate 0 = .ok (.aload_n 0, 1) := by decide +kernel
theorem dX12_gate_1 : decode cX12_gate 1 = .ok (.iconst 0, 1) := by decide +kernel
theorem dX12_gate_2 : decode cX12_gate 2 = .ok (.putfield 97, 3) := by decide +kernel
theorem dX12_gate_5 : decode cX12_gate 5 = .ok (.aload_n 0, 1) := by decide +kernel
theorem dX12_gate_6 : decode cX12_gate 6 = .ok (.invokevirtual 310, 3) := by decide +kernel
theorem dX12_gate_9 : decode cX12_gate 9 = .ok (.aload_n 0, 1) := by decide +kernel
theorem dX12_gate_10 : decode cX12_gate 10 = .ok (.aload_n 0, 1) := by decide +kernel
theorem dX12_gate_11 : decode cX12_gate 11 = .ok (.iload_n 1, 1) := by decide +kernel
theorem dX12_gate_12 : decode cX12_gate 12 = .ok (.invokevirtual 325, 3) := by decide +kernel
theorem dX12_gate_15 : decode cX12_gate 15 = .ok (.invokevirtual 316, 3) := by decide +kernel
theorem dX12_gate_18 : decode cX12_gate 18 = .ok (.ireturn, 1) := by decide +kernel
theorem dX12_weeks_0 : decode cX12_weeks 0 = .ok (.aload_n 0, 1) := by decide +kernel
theorem dX12_weeks_1 : decode cX12_weeks 1 = .ok (.iconst 0, 1) := by decide +kernel
theorem dX12_weeks_2 : decode cX12_weeks 2 = .ok (.putfield 97, 3) := by decide +kernel
theorem dX12_weeks_5 : decode cX12_weeks 5 = .ok (.iload_n 1, 1) := by decide +kernel
theorem dX12_weeks_6 : decode cX12_weeks 6 = .ok (.i2l, 1) := by decide +kernel
theorem dX12_weeks_7 : decode cX12_weeks 7 = .ok (.lconst 0, 1) := by decide +kernel
theorem dX12_weeks_8 : decode cX12_weeks 8 = .ok (.ldc2_w 328, 3) := by decide +kernel
theorem dX12_weeks_11 : decode cX12_weeks 11 = .ok (.invokestatic 107, 3) := by decide +kernel
theorem dX12_weeks_14 : decode cX12_weeks 14 = .ok (.ifCond .ne 5, 3) := by decide +kernel
theorem dX12_weeks_17 : decode cX12_weeks 17 = .ok (.iconst (-1), 1) := by decide +kernel
theorem dX12_weeks_18 : decode cX12_weeks 18 = .ok (.ireturn, 1) := by decide +kernel
theorem dX12_weeks_19 : decode cX12_weeks 19 = .ok (.aload_n 0, 1) := by decide +kernel
theorem dX12_weeks_20 : decode cX12_weeks 20 = .ok (.invokevirtual 310, 3) := by decide +kernel
theorem dX12_weeks_23 : decode cX12_weeks 23 = .ok (.aload_n 0, 1) := by decide +kernel
theorem dX12_weeks_24 : decode cX12_weeks 24 = .ok (.getfield 36, 3) := by decide +kernel
theorem dX12_weeks_27 : decode cX12_weeks 27 = .ok (.bipush 28, 2) := by decide +kernel
theorem dX12_weeks_29 : decode cX12_weeks 29 = .ok (.iaload, 1) := by decide +kernel
theorem dX12_weeks_30 : decode cX12_weeks 30 = .ok (.istore_n 2, 1) := by decide +kernel
theorem dX12_weeks_31 : decode cX12_weeks 31 = .ok (.aload_n 0, 1) := by decide +kernel
theorem dX12_weeks_32 : decode cX12_weeks 32 = .ok (.aload_n 0, 1) := by decide +kernel
theorem dX12_weeks_33 : decode cX12_weeks 33 = .ok (.getfield 36, 3) := by decide +kernel
theorem dX12_weeks_36 : decode cX12_weeks 36 = .ok (.iload_n 1, 1) := by decide +kernel
theorem dX12_weeks_37 : decode cX12_weeks 37 = .ok (.invokevirtual 330, 3) := by decide +kernel
theorem dX12_weeks_40 : decode cX12_weeks 40 = .ok (.istore_n 3, 1) := by decide +kernel
theorem dX12_weeks_41 : decode cX12_weeks 41 = .ok (.aload_n 0, 1) := by decide +kernel
theorem dX12_weeks_42 : decode cX12_weeks 42 = .ok (.iconst 0, 1) := by decide +kernel
theorem dX12_weeks_43 : decode cX12_weeks 43 = .ok (.putfield 104, 3) := by decide +kernel
theorem dX12_weeks_46 : decode cX12_weeks 46 = .ok (.aload_n 0, 1) := by decide +kernel
theorem dX12_weeks_47 : decode cX12_weeks 47 = .ok (.iload_n 3, 1) := by decide +kernel
theorem dX12_weeks_48 : decode cX12_weeks 48 = .ok (.i2l, 1) := by decide +kernel
theorem dX12_weeks_49 : decode cX12_weeks 49 = .ok (.invokevirtual 333, 3) := by decide +kernel
theorem dX12_weeks_52 : decode cX12_weeks 52 = .ok (.aload_n 0, 1) := by decide +kernel
theorem dX12_weeks_53 : decode cX12_weeks 53 = .ok (.aload_n 0, 1) := by decide +kernel
theorem dX12_weeks_54 : decode cX12_weeks 54 = .ok (.aload_n 0, 1) := by decide +kernel
theorem dX12_weeks_55 : decode cX12_weeks 55 = .ok (.getfield 36, 3) := by decide +kernel
theorem dX12_weeks_58 : decode cX12_weeks 58 = .ok (.invokevirtual 337, 3) := by decide +kernel
theorem dX12_weeks_61 : decode cX12_weeks 61 = .ok (.i2l, 1) := by decide +kernel
theorem dX12_weeks_62 : decode cX12_weeks 62 = .ok (.invokevirtual 333, 3) := by decide +kernel
theorem dX12_weeks_65 : decode cX12_weeks 65 = .ok (.aload_n 0, 1) := by decide +kernel
theorem dX12_weeks_66 : decode cX12_weeks 66 = .ok (.aload_n 0, 1) := by decide +kernel
theorem dX12_weeks_67 : decode cX12_weeks 67 = .ok (.getfield 36, 3) := by decide +kernel
theorem dX12_weeks_70 : decode cX12_weeks 70 = .ok (.bipush 28, 2) := by decide +kernel
theorem dX12_weeks_72 : decode cX12_weeks 72 = .ok (.iaload, 1) := by decide +kernel
theorem dX12_weeks_73 : decode cX12_weeks 73 = .ok (.iload_n 2, 1) := by decide +kernel
theorem dX12_weeks_74 : decode cX12_weeks 74 = .ok (.isub, 1) := by decide +kernel
theorem dX12_weeks_75 : decode cX12_weeks 75 = .ok (.invokevirtual 292, 3) := by decide +kernel
theorem dX12_weeks_78 : decode cX12_weeks 78 = .ok (.ireturn, 1) := by decide +kernel
theorem dX12_readsAct_0 : decode cX12_readsAct 0 = .ok (.aload_n 0, 1) := by decide +kernel
theorem dX12_readsAct_1 : decode cX12_readsAct 1 = .ok (.getfield 340, 3) := by decide +kernel
theorem dX12_readsAct_4 : decode cX12_readsAct 4 = .ok (.istore_n 1, 1) := by decide +kernel
theorem dX12_readsAct_5 : decode cX12_readsAct 5 = .ok (.aload_n 0, 1) := by decide +kernel
theorem dX12_readsAct_6 : decode cX12_readsAct 6 = .ok (.getfield 66, 3) := by decide +kernel
theorem dX12_readsAct_9 : decode cX12_readsAct 9 = .ok (.iload_n 1, 1) := by decide +kernel
theorem dX12_readsAct_10 : decode cX12_readsAct 10 = .ok (.aload_n 0, 1) := by decide +kernel
theorem dX12_readsAct_11 : decode cX12_readsAct 11 = .ok (.ldc_w 343, 3) := by decide +kernel
theorem dX12_readsAct_14 : decode cX12_readsAct 14 = .ok (.invokevirtual 172, 3) := by decide +kernel
theorem dX12_readsAct_17 : decode cX12_readsAct 17 = .ok (.iastore, 1) := by decide +kernel
theorem dX12_readsAct_18 : decode cX12_readsAct 18 = .ok (.aload_n 0, 1) := by decide +kernel
theorem dX12_readsAct_19 : decode cX12_readsAct 19 = .ok (.dup, 1) := by decide +kernel
theorem dX12_readsAct_20 : decode cX12_readsAct 20 = .ok (.getfield 340, 3) := by decide +kernel
theorem dX12_readsAct_23 : decode cX12_readsAct 23 = .ok (.iconst 1, 1) := by decide +kernel
theorem dX12_readsAct_24 : decode cX12_readsAct 24 = .ok (.iadd, 1) := by decide +kernel
theorem dX12_readsAct_25 : decode cX12_readsAct 25 = .ok (.putfield 340, 3) := by decide +kernel
theorem dX12_readsAct_28 : decode cX12_readsAct 28 = .ok (.aload_n 0, 1) := by decide +kernel
theorem dX12_readsAct_29 : decode cX12_readsAct 29 = .ok (.getfield 66, 3) := by decide +kernel
theorem dX12_readsAct_32 : decode cX12_readsAct 32 = .ok (.iload_n 1, 1) := by decide +kernel
theorem dX12_readsAct_33 : decode cX12_readsAct 33 = .ok (.iaload, 1) := by decide +kernel
theorem dX12_readsAct_34 : decode cX12_readsAct 34 = .ok (.tableswitch 178 0 5 #[38, 64, 64, 125, 153, 153], 38) := by decide +kernel
theorem dX12_readsAct_72 : decode cX12_readsAct 72 = .ok (.aload_n 0, 1) := by decide +kernel
theorem dX12_readsAct_73 : decode cX12_readsAct 73 = .ok (.getfield 69, 3) := by decide +kernel
theorem dX12_readsAct_76 : decode cX12_readsAct 76 = .ok (.iload_n 1, 1) := by decide +kernel
theorem dX12_readsAct_77 : decode cX12_readsAct 77 = .ok (.aload_n 0, 1) := by decide +kernel
theorem dX12_readsAct_78 : decode cX12_readsAct 78 = .ok (.iconst 1, 1) := by decide +kernel
theorem dX12_readsAct_79 : decode cX12_readsAct 79 = .ok (.invokevirtual 162, 3) := by decide +kernel
theorem dX12_readsAct_82 : decode cX12_readsAct 82 = .ok (.iastore, 1) := by decide +kernel
theorem dX12_readsAct_83 : decode cX12_readsAct 83 = .ok (.aload_n 0, 1) := by decide +kernel
theorem dX12_readsAct_84 : decode cX12_readsAct 84 = .ok (.getfield 69, 3) := by decide +kernel
theorem dX12_readsAct_87 : decode cX12_readsAct 87 = .ok (.iload_n 1, 1) := by decide +kernel
theorem dX12_readsAct_88 : decode cX12_readsAct 88 = .ok (.iaload, 1) := by decide +kernel
theorem dX12_readsAct_89 : decode cX12_readsAct 89 = .ok (.ifCond .lt 7, 3) := by decide +kernel
theorem dX12_readsAct_92 : decode cX12_readsAct 92 = .ok (.iconst 1, 1) := by decide +kernel
theorem dX12_readsAct_93 : decode cX12_readsAct 93 = .ok (.goto 4, 3) := by decide +kernel
theorem dX12_readsAct_96 : decode cX12_readsAct 96 = .ok (.iconst 0, 1) := by decide +kernel
theorem dX12_readsAct_97 : decode cX12_readsAct 97 = .ok (.ireturn, 1) := by decide +kernel
theorem dX12_readsAct_98 : decode cX12_readsAct 98 = .ok (.aload_n 0, 1) := by decide +kernel
theorem dX12_readsAct_99 : decode cX12_readsAct 99 = .ok (.getfield 69, 3) := by decide +kernel
theorem dX12_readsAct_102 : decode cX12_readsAct 102 = .ok (.iload_n 1, 1) := by decide +kernel
theorem dX12_readsAct_103 : decode cX12_readsAct 103 = .ok (.aload_n 0, 1) := by decide +kernel
theorem dX12_readsAct_104 : decode cX12_readsAct 104 = .ok (.ldc_w 345, 3) := by decide +kernel
theorem dX12_readsAct_107 : decode cX12_readsAct 107 = .ok (.invokevirtual 172, 3) := by decide +kernel
theorem dX12_readsAct_110 : decode cX12_readsAct 110 = .ok (.iastore, 1) := by decide +kernel
theorem dX12_readsAct_111 : decode cX12_readsAct 111 = .ok (.aload_n 0, 1) := by decide +kernel
theorem dX12_readsAct_112 : decode cX12_readsAct 112 = .ok (.getfield 72, 3) := by decide +kernel
theorem dX12_readsAct_115 : decode cX12_readsAct 115 = .ok (.iload_n 1, 1) := by decide +kernel
theorem dX12_readsAct_116 : decode cX12_readsAct 116 = .ok (.aload_n 0, 1) := by decide +kernel
theorem dX12_readsAct_117 : decode cX12_readsAct 117 = .ok (.getfield 69, 3) := by decide +kernel
theorem dX12_readsAct_120 : decode cX12_readsAct 120 = .ok (.iload_n 1, 1) := by decide +kernel
theorem dX12_readsAct_121 : decode cX12_readsAct 121 = .ok (.iaload, 1) := by decide +kernel
theorem dX12_readsAct_122 : decode cX12_readsAct 122 = .ok (.ifCond .ge 7, 3) := by decide +kernel
theorem dX12_readsAct_125 : decode cX12_readsAct 125 = .ok (.iconst (-1), 1) := by decide +kernel
theorem dX12_readsAct_126 : decode cX12_readsAct 126 = .ok (.goto 17, 3) := by decide +kernel
theorem dX12_readsAct_129 : decode cX12_readsAct 129 = .ok (.aload_n 0, 1) := by decide +kernel
theorem dX12_readsAct_130 : decode cX12_readsAct 130 = .ok (.aload_n 0, 1) := by decide +kernel
theorem dX12_readsAct_131 : decode cX12_readsAct 131 = .ok (.getfield 66, 3) := by decide +kernel
theorem dX12_readsAct_134 : decode cX12_readsAct 134 = .ok (.iload_n 1, 1) := by decide +kernel
theorem dX12_readsAct_135 : decode cX12_readsAct 135 = .ok (.iaload, 1) := by decide +kernel
theorem dX12_readsAct_136 : decode cX12_readsAct 136 = .ok (.iconst 1, 1) := by decide +kernel
theorem dX12_readsAct_137 : decode cX12_readsAct 137 = .ok (.isub, 1) := by decide +kernel
theorem dX12_readsAct_138 : decode cX12_readsAct 138 = .ok (.bipush 9, 2) := by decide +kernel
theorem dX12_readsAct_140 : decode cX12_readsAct 140 = .ok (.invokevirtual 186, 3) := by decide +kernel
theorem dX12_readsAct_143 : decode cX12_readsAct 143 = .ok (.iastore, 1) := by decide +kernel
theorem dX12_readsAct_144 : decode cX12_readsAct 144 = .ok (.aload_n 0, 1) := by decide +kernel
theorem dX12_readsAct_145 : decode cX12_readsAct 145 = .ok (.getfield 72, 3) := by decide +kernel
theorem dX12_readsAct_148 : decode cX12_readsAct 148 = .ok (.iload_n 1, 1) := by decide +kernel
theorem dX12_readsAct_149 : decode cX12_readsAct 149 = .ok (.iaload, 1) := by decide +kernel
theorem dX12_readsAct_150 : decode cX12_readsAct 150 = .ok (.ifCond .lt 7, 3) := by decide +kernel
theorem dX12_readsAct_153 : decode cX12_readsAct 153 = .ok (.iconst 1, 1) := by decide +kernel
theorem dX12_readsAct_154 : decode cX12_readsAct 154 = .ok (.goto 4, 3) := by decide +kernel
theorem dX12_readsAct_157 : decode cX12_readsAct 157 = .ok (.iconst 0, 1) := by decide +kernel
theorem dX12_readsAct_158 : decode cX12_readsAct 158 = .ok (.ireturn, 1) := by decide +kernel
theorem dX12_readsAct_159 : decode cX12_readsAct 159 = .ok (.aload_n 0, 1) := by decide +kernel
theorem dX12_readsAct_160 : decode cX12_readsAct 160 = .ok (.getfield 69, 3) := by decide +kernel
theorem dX12_readsAct_163 : decode cX12_readsAct 163 = .ok (.iload_n 1, 1) := by decide +kernel
theorem dX12_readsAct_164 : decode cX12_readsAct 164 = .ok (.aload_n 0, 1) := by decide +kernel
theorem dX12_readsAct_165 : decode cX12_readsAct 165 = .ok (.ldc_w 345, 3) := by decide +kernel
theorem dX12_readsAct_168 : decode cX12_readsAct 168 = .ok (.invokevirtual 172, 3) := by decide +kernel
theorem dX12_readsAct_171 : decode cX12_readsAct 171 = .ok (.iastore, 1) := by decide +kernel
theorem dX12_readsAct_172 : decode cX12_readsAct 172 = .ok (.aload_n 0, 1) := by decide +kernel
theorem dX12_readsAct_173 : decode cX12_readsAct 173 = .ok (.getfield 69, 3) := by decide +kernel
theorem dX12_readsAct_176 : decode cX12_readsAct 176 = .ok (.iload_n 1, 1) := by decide +kernel
theorem dX12_readsAct_177 : decode cX12_readsAct 177 = .ok (.iaload, 1) := by decide +kernel
theorem dX12_readsAct_178 : decode cX12_readsAct 178 = .ok (.ifCond .lt 7, 3) := by decide +kernel
theorem dX12_readsAct_181 : decode cX12_readsAct 181 = .ok (.iconst 1, 1) := by decide +kernel
theorem dX12_readsAct_182 : decode cX12_readsAct 182 = .ok (.goto 4, 3) := by decide +kernel
theorem dX12_readsAct_185 : decode cX12_readsAct 185 = .ok (.iconst 0, 1) := by decide +kernel
theorem dX12_readsAct_186 : decode cX12_readsAct 186 = .ok (.ireturn, 1) := by decide +kernel
theorem dX12_readsAct_187 : decode cX12_readsAct 187 = .ok (.aload_n 0, 1) := by decide +kernel
theorem dX12_readsAct_188 : decode cX12_readsAct 188 = .ok (.getfield 69, 3) := by decide +kernel
theorem dX12_readsAct_191 : decode cX12_readsAct 191 = .ok (.iload_n 1, 1) := by decide +kernel
theorem dX12_readsAct_192 : decode cX12_readsAct 192 = .ok (.aload_n 0, 1) := by decide +kernel
theorem dX12_readsAct_193 : decode cX12_readsAct 193 = .ok (.invokevirtual 347, 3) := by decide +kernel
theorem dX12_readsAct_196 : decode cX12_readsAct 196 = .ok (.iastore, 1) := by decide +kernel
theorem dX12_readsAct_197 : decode cX12_readsAct 197 = .ok (.aload_n 0, 1) := by decide +kernel
theorem dX12_readsAct_198 : decode cX12_readsAct 198 = .ok (.getfield 69, 3) := by decide +kernel
theorem dX12_readsAct_201 : decode cX12_readsAct 201 = .ok (.iload_n 1, 1) := by decide +kernel
theorem dX12_readsAct_202 : decode cX12_readsAct 202 = .ok (.iaload, 1) := by decide +kernel
theorem dX12_readsAct_203 : decode cX12_readsAct 203 = .ok (.ifCond .lt 7, 3) := by decide +kernel
theorem dX12_readsAct_206 : decode cX12_readsAct 206 = .ok (.iconst 1, 1) := by decide +kernel
theorem dX12_readsAct_207 : decode cX12_readsAct 207 = .ok (.goto 4, 3) := by decide +kernel
theorem dX12_readsAct_210 : decode cX12_readsAct 210 = .ok (.iconst 0, 1) := by decide +kernel
theorem dX12_readsAct_211 : decode cX12_readsAct 211 = .ok (.ireturn, 1) := by decide +kernel
theorem dX12_readsAct_212 : decode cX12_readsAct 212 = .ok (.iconst 0, 1) := by decide +kernel
theorem dX12_readsAct_213 : decode cX12_readsAct 213 = .ok (.ireturn, 1) := by decide +kernel
theorem dX12_does_0 : decode cX12_does 0 = .ok (.aload_n 0, 1) := by decide +kernel
theorem dX12_does_1 : decode cX12_does 1 = .ok (.getfield 69, 3) := by decide +kernel
theorem dX12_does_4 : decode cX12_does 4 = .ok (.iload_n 1, 1) := by decide +kernel
theorem dX12_does_5 : decode cX12_does 5 = .ok (.iaload, 1) := by decide +kernel
theorem dX12_does_6 : decode cX12_does 6 = .ok (.istore_n 2, 1) := by decide +kernel
theorem dX12_does_7 : decode cX12_does 7 = .ok (.aload_n 0, 1) := by decide +kernel
theorem dX12_does_8 : decode cX12_does 8 = .ok (.getfield 66, 3) := by decide +kernel
theorem dX12_does_11 : decode cX12_does 11 = .ok (.iload_n 1, 1) := by decide +kernel
theorem dX12_does_12 : decode cX12_does 12 = .ok (.iaload, 1) := by decide +kernel
theorem dX12_does_13 : decode cX12_does 13 = .ok (.tableswitch 97 0 3 #[31, 43, 63, 83], 31) := by decide +kernel
theorem dX12_does_44 : decode cX12_does 44 = .ok (.aload_n 0, 1) := by decide +kernel
theorem dX12_does_45 : decode cX12_does 45 = .ok (.aload_n 0, 1) := by decide +kernel
theorem dX12_does_46 : decode cX12_does 46 = .ok (.getfield 36, 3) := by decide +kernel
theorem dX12_does_49 : decode cX12_does 49 = .ok (.iload_n 2, 1) := by decide +kernel
theorem dX12_does_50 : decode cX12_does 50 = .ok (.invokevirtual 330, 3) := by decide +kernel
theorem dX12_does_53 : decode cX12_does 53 = .ok (.pop, 1) := by decide +kernel
theorem dX12_does_54 : decode cX12_does 54 = .ok (.iconst 1, 1) := by decide +kernel
theorem dX12_does_55 : decode cX12_does 55 = .ok (.ireturn, 1) := by decide +kernel
theorem dX12_does_56 : decode cX12_does 56 = .ok (.aload_n 0, 1) := by decide +kernel
theorem dX12_does_57 : decode cX12_does 57 = .ok (.iload_n 2, 1) := by decide +kernel
theorem dX12_does_58 : decode cX12_does 58 = .ok (.aload_n 0, 1) := by decide +kernel
theorem dX12_does_59 : decode cX12_does 59 = .ok (.getfield 72, 3) := by decide +kernel
theorem dX12_does_62 : decode cX12_does 62 = .ok (.iload_n 1, 1) := by decide +kernel
theorem dX12_does_63 : decode cX12_does 63 = .ok (.iaload, 1) := by decide +kernel
theorem dX12_does_64 : decode cX12_does 64 = .ok (.invokevirtual 319, 3) := by decide +kernel
theorem dX12_does_67 : decode cX12_does 67 = .ok (.ifCond .lt 7, 3) := by decide +kernel
theorem dX12_does_70 : decode cX12_does 70 = .ok (.iconst 1, 1) := by decide +kernel
theorem dX12_does_71 : decode cX12_does 71 = .ok (.goto 4, 3) := by decide +kernel
theorem dX12_does_74 : decode cX12_does 74 = .ok (.iconst 0, 1) := by decide +kernel
theorem dX12_does_75 : decode cX12_does 75 = .ok (.ireturn, 1) := by decide +kernel
theorem dX12_does_76 : decode cX12_does 76 = .ok (.aload_n 0, 1) := by decide +kernel
theorem dX12_does_77 : decode cX12_does 77 = .ok (.iload_n 2, 1) := by decide +kernel
theorem dX12_does_78 : decode cX12_does 78 = .ok (.aload_n 0, 1) := by decide +kernel
theorem dX12_does_79 : decode cX12_does 79 = .ok (.getfield 72, 3) := by decide +kernel
theorem dX12_does_82 : decode cX12_does 82 = .ok (.iload_n 1, 1) := by decide +kernel
theorem dX12_does_83 : decode cX12_does 83 = .ok (.iaload, 1) := by decide +kernel
theorem dX12_does_84 : decode cX12_does 84 = .ok (.invokevirtual 322, 3) := by decide +kernel
theorem dX12_does_87 : decode cX12_does 87 = .ok (.ifCond .lt 7, 3) := by decide +kernel
theorem dX12_does_90 : decode cX12_does 90 = .ok (.iconst 1, 1) := by decide +kernel
theorem dX12_does_91 : decode cX12_does 91 = .ok (.goto 4, 3) := by decide +kernel
theorem dX12_does_94 : decode cX12_does 94 = .ok (.iconst 0, 1) := by decide +kernel
theorem dX12_does_95 : decode cX12_does 95 = .ok (.ireturn, 1) := by decide +kernel
theorem dX12_does_96 : decode cX12_does 96 = .ok (.aload_n 0, 1) := by decide +kernel
theorem dX12_does_97 : decode cX12_does 97 = .ok (.iload_n 2, 1) := by decide +kernel
theorem dX12_does_98 : decode cX12_does 98 = .ok (.invokevirtual 325, 3) := by decide +kernel
theorem dX12_does_101 : decode cX12_does 101 = .ok (.ifCond .lt 7, 3) := by decide +kernel
theorem dX12_does_104 : decode cX12_does 104 = .ok (.iconst 1, 1) := by decide +kernel
theorem dX12_does_105 : decode cX12_does 105 = .ok (.goto 4, 3) := by decide +kernel
theorem dX12_does_108 : decode cX12_does 108 = .ok (.iconst 0, 1) := by decide +kernel
theorem dX12_does_109 : decode cX12_does 109 = .ok (.ireturn, 1) := by decide +kernel
theorem dX12_does_110 : decode cX12_does 110 = .ok (.aload_n 0, 1) := by decide +kernel
theorem dX12_does_111 : decode cX12_does 111 = .ok (.aload_n 0, 1) := by decide +kernel
theorem dX12_does_112 : decode cX12_does 112 = .ok (.getfield 66, 3) := by decide +kernel
theorem dX12_does_115 : decode cX12_does 115 = .ok (.iload_n 1, 1) := by decide +kernel
theorem dX12_does_116 : decode cX12_does 116 = .ok (.iaload, 1) := by decide +kernel
theorem dX12_does_117 : decode cX12_does 117 = .ok (.iconst 4, 1) := by decide +kernel
theorem dX12_does_118 : decode cX12_does 118 = .ok (.isub, 1) := by decide +kernel
theorem dX12_does_119 : decode cX12_does 119 = .ok (.iload_n 2, 1) := by decide +kernel
theorem dX12_does_120 : decode cX12_does 120 = .ok (.invokevirtual 313, 3) := by decide +kernel
theorem dX12_does_123 : decode cX12_does 123 = .ok (.ifCond .lt 7, 3) := by decide +kernel
theorem dX12_does_126 : decode cX12_does 126 = .ok (.iconst 1, 1) := by decide +kernel
theorem dX12_does_127 : decode cX12_does 127 = .ok (.goto 4, 3) := by decide +kernel
theorem dX12_does_130 : decode cX12_does 130 = .ok (.iconst 0, 1) := by decide +kernel
theorem dX12_does_131 : decode cX12_does 131 = .ok (.ireturn, 1) := by decide +kernel
theorem dX12_log_0 : decode cX12_log 0 = .ok (.aload_n 0, 1) := by decide +kernel
theorem dX12_log_1 : decode cX12_log 1 = .ok (.iconst 0, 1) := by decide +kernel
theorem dX12_log_2 : decode cX12_log 2 = .ok (.putfield 97, 3) := by decide +kernel
theorem dX12_log_5 : decode cX12_log 5 = .ok (.aload_n 0, 1) := by decide +kernel
theorem dX12_log_6 : decode cX12_log 6 = .ok (.bipush 60, 2) := by decide +kernel
theorem dX12_log_8 : decode cX12_log 8 = .ok (.invokevirtual 166, 3) := by decide +kernel
theorem dX12_log_11 : decode cX12_log 11 = .ok (.istore_n 1, 1) := by decide +kernel
theorem dX12_log_12 : decode cX12_log 12 = .ok (.aload_n 0, 1) := by decide +kernel
theorem dX12_log_13 : decode cX12_log 13 = .ok (.iconst 0, 1) := by decide +kernel
theorem dX12_log_14 : decode cX12_log 14 = .ok (.putfield 340, 3) := by decide +kernel
theorem dX12_log_17 : decode cX12_log 17 = .ok (.iconst 1, 1) := by decide +kernel
theorem dX12_log_18 : decode cX12_log 18 = .ok (.istore_n 2, 1) := by decide +kernel
theorem dX12_log_19 : decode cX12_log 19 = .ok (.iload_n 2, 1) := by decide +kernel
theorem dX12_log_20 : decode cX12_log 20 = .ok (.ifCond .eq 22, 3) := by decide +kernel
theorem dX12_log_23 : decode cX12_log 23 = .ok (.aload_n 0, 1) := by decide +kernel
theorem dX12_log_24 : decode cX12_log 24 = .ok (.getfield 121, 3) := by decide +kernel
theorem dX12_log_27 : decode cX12_log 27 = .ok (.aload_n 0, 1) := by decide +kernel
theorem dX12_log_28 : decode cX12_log 28 = .ok (.getfield 133, 3) := by decide +kernel
theorem dX12_log_31 : decode cX12_log 31 = .ok (.if_icmp .ge 11, 3) := by decide +kernel
theorem dX12_log_34 : decode cX12_log 34 = .ok (.aload_n 0, 1) := by decide +kernel
theorem dX12_log_35 : decode cX12_log 35 = .ok (.invokevirtual 350, 3) := by decide +kernel
theorem dX12_log_38 : decode cX12_log 38 = .ok (.istore_n 2, 1) := by decide +kernel
theorem dX12_log_39 : decode cX12_log 39 = .ok (.goto (-20), 3) := by decide +kernel
theorem dX12_log_42 : decode cX12_log 42 = .ok (.aload_n 0, 1) := by decide +kernel
theorem dX12_log_43 : decode cX12_log 43 = .ok (.iload_n 1, 1) := by decide +kernel
theorem dX12_log_44 : decode cX12_log 44 = .ok (.bipush 60, 2) := by decide +kernel
theorem dX12_log_46 : decode cX12_log 46 = .ok (.iload_n 2, 1) := by decide +kernel
theorem dX12_log_47 : decode cX12_log 47 = .ok (.invokevirtual 196, 3) := by decide +kernel
theorem dX12_log_50 : decode cX12_log 50 = .ok (.istore_n 3, 1) := by decide +kernel
theorem dX12_log_51 : decode cX12_log 51 = .ok (.iload_n 3, 1) := by decide +kernel
theorem dX12_log_52 : decode cX12_log 52 = .ok (.ifCond .ge 5, 3) := by decide +kernel
theorem dX12_log_55 : decode cX12_log 55 = .ok (.iload_n 3, 1) := by decide +kernel
theorem dX12_log_56 : decode cX12_log 56 = .ok (.ireturn, 1) := by decide +kernel
theorem dX12_log_57 : decode cX12_log 57 = .ok (.aload_n 0, 1) := by decide +kernel
theorem dX12_log_58 : decode cX12_log 58 = .ok (.invokevirtual 310, 3) := by decide +kernel
theorem dX12_log_61 : decode cX12_log 61 = .ok (.iconst 0, 1) := by decide +kernel
theorem dX12_log_62 : decode cX12_log 62 = .ok (.istore 4, 2) := by decide +kernel
theorem dX12_log_64 : decode cX12_log 64 = .ok (.iload 4, 2) := by decide +kernel
theorem dX12_log_66 : decode cX12_log 66 = .ok (.aload_n 0, 1) := by decide +kernel
theorem dX12_log_67 : decode cX12_log 67 = .ok (.getfield 340, 3) := by decide +kernel
theorem dX12_log_70 : decode cX12_log 70 = .ok (.if_icmp .ge 18, 3) := by decide +kernel
theorem dX12_log_73 : decode cX12_log 73 = .ok (.aload_n 0, 1) := by decide +kernel
theorem dX12_log_74 : decode cX12_log 74 = .ok (.iload 4, 2) := by decide +kernel
theorem dX12_log_76 : decode cX12_log 76 = .ok (.invokevirtual 353, 3) := by decide +kernel
theorem dX12_log_79 : decode cX12_log 79 = .ok (.ifCond .eq 9, 3) := by decide +kernel
theorem dX12_log_82 : decode cX12_log 82 = .ok (.iinc 4 1, 3) := by decide +kernel
theorem dX12_log_85 : decode cX12_log 85 = .ok (.goto (-21), 3) := by decide +kernel
theorem dX12_log_88 : decode cX12_log 88 = .ok (.aload_n 0, 1) := by decide +kernel
theorem dX12_log_89 : decode cX12_log 89 = .ok (.iconst 0, 1) := by decide +kernel
theorem dX12_log_90 : decode cX12_log 90 = .ok (.putfield 104, 3) := by decide +kernel
theorem dX12_log_93 : decode cX12_log 93 = .ok (.aload_n 0, 1) := by decide +kernel
theorem dX12_log_94 : decode cX12_log 94 = .ok (.iload 4, 2) := by decide +kernel
theorem dX12_log_96 : decode cX12_log 96 = .ok (.aload_n 0, 1) := by decide +kernel
theorem dX12_log_97 : decode cX12_log 97 = .ok (.getfield 340, 3) := by decide +kernel
theorem dX12_log_100 : decode cX12_log 100 = .ok (.if_icmp .ge 7, 3) := by decide +kernel
theorem dX12_log_103 : decode cX12_log 103 = .ok (.iconst 1, 1) := by decide +kernel
theorem dX12_log_104 : decode cX12_log 104 = .ok (.goto 4, 3) := by decide +kernel
theorem dX12_log_107 : decode cX12_log 107 = .ok (.iconst 0, 1) := by decide +kernel
theorem dX12_log_108 : decode cX12_log 108 = .ok (.invokestatic 136, 3) := by decide +kernel
theorem dX12_log_111 : decode cX12_log 111 = .ok (.i2l, 1) := by decide +kernel
theorem dX12_log_112 : decode cX12_log 112 = .ok (.invokevirtual 333, 3) := by decide +kernel
theorem dX12_log_115 : decode cX12_log 115 = .ok (.aload_n 0, 1) := by decide +kernel
theorem dX12_log_116 : decode cX12_log 116 = .ok (.aload_n 0, 1) := by decide +kernel
theorem dX12_log_117 : decode cX12_log 117 = .ok (.getfield 36, 3) := by decide +kernel
theorem dX12_log_120 : decode cX12_log 120 = .ok (.bipush 28, 2) := by decide +kernel
theorem dX12_log_122 : decode cX12_log 122 = .ok (.iaload, 1) := by decide +kernel
theorem dX12_log_123 : decode cX12_log 123 = .ok (.i2l, 1) := by decide +kernel
theorem dX12_log_124 : decode cX12_log 124 = .ok (.invokevirtual 333, 3) := by decide +kernel
theorem dX12_log_127 : decode cX12_log 127 = .ok (.iload 4, 2) := by decide +kernel
theorem dX12_log_129 : decode cX12_log 129 = .ok (.ifCond .le 12, 3) := by decide +kernel
theorem dX12_log_132 : decode cX12_log 132 = .ok (.aload_n 0, 1) := by decide +kernel
theorem dX12_log_133 : decode cX12_log 133 = .ok (.iload 4, 2) := by decide +kernel
theorem dX12_log_135 : decode cX12_log 135 = .ok (.invokevirtual 292, 3) := by decide +kernel
theorem dX12_log_138 : decode cX12_log 138 = .ok (.goto 4, 3) := by decide +kernel
theorem dX12_log_141 : decode cX12_log 141 = .ok (.iconst 0, 1) := by decide +kernel
theorem dX12_log_142 : decode cX12_log 142 = .ok (.ireturn, 1) := by decide +kernel
theorem dX12_copies_0 : decode cX12_copies 0 = .ok (.iconst 0, 1) := by decide +kernel
theorem dX12_copies_1 : decode cX12_copies 1 = .ok (.istore_n 1, 1) := by decide +kernel
theorem dX12_copies_2 : decode cX12_copies 2 = .ok (.iload_n 1, 1) := by decide +kernel
theorem dX12_copies_3 : decode cX12_copies 3 = .ok (.bipush 29, 2) := by decide +kernel
theorem dX12_copies_5 : decode cX12_copies 5 = .ok (.if_icmp .ge 21, 3) := by decide +kernel
theorem dX12_copies_8 : decode cX12_copies 8 = .ok (.aload_n 0, 1) := by decide +kernel
theorem dX12_copies_9 : decode cX12_copies 9 = .ok (.getfield 39, 3) := by decide +kernel
theorem dX12_copies_12 : decode cX12_copies 12 = .ok (.iload_n 1, 1) := by decide +kernel
theorem dX12_copies_13 : decode cX12_copies 13 = .ok (.aload_n 0, 1) := by decide +kernel
theorem dX12_copies_14 : decode cX12_copies 14 = .ok (.getfield 36, 3) := by decide +kernel
theorem dX12_copies_17 : decode cX12_copies 17 = .ok (.iload_n 1, 1) := by decide +kernel
theorem dX12_copies_18 : decode cX12_copies 18 = .ok (.iaload, 1) := by decide +kernel
theorem dX12_copies_19 : decode cX12_copies 19 = .ok (.iastore, 1) := by decide +kernel
theorem dX12_copies_20 : decode cX12_copies 20 = .ok (.iinc 1 1, 3) := by decide +kernel
theorem dX12_copies_23 : decode cX12_copies 23 = .ok (.goto (-21), 3) := by decide +kernel
theorem dX12_copies_26 : decode cX12_copies 26 = .ok (.return_, 1) := by decide +kernel
theorem dX12_loadsNow_0 : decode cX12_loadsNow 0 = .ok (.aload_n 0, 1) := by decide +kernel
theorem dX12_loadsNow_1 : decode cX12_loadsNow 1 = .ok (.getfield 39, 3) := by decide +kernel
theorem dX12_loadsNow_4 : decode cX12_loadsNow 4 = .ok (.bipush 28, 2) := by decide +kernel
theorem dX12_loadsNow_6 : decode cX12_loadsNow 6 = .ok (.iaload, 1) := by decide +kernel
theorem dX12_loadsNow_7 : decode cX12_loadsNow 7 = .ok (.istore_n 2, 1) := by decide +kernel
theorem dX12_loadsNow_8 : decode cX12_loadsNow 8 = .ok (.aload_n 0, 1) := by decide +kernel
theorem dX12_loadsNow_9 : decode cX12_loadsNow 9 = .ok (.aload_n 0, 1) := by decide +kernel
theorem dX12_loadsNow_10 : decode cX12_loadsNow 10 = .ok (.getfield 39, 3) := by decide +kernel
theorem dX12_loadsNow_13 : decode cX12_loadsNow 13 = .ok (.iload_n 1, 1) := by decide +kernel
theorem dX12_loadsNow_14 : decode cX12_loadsNow 14 = .ok (.invokevirtual 295, 3) := by decide +kernel
theorem dX12_loadsNow_17 : decode cX12_loadsNow 17 = .ok (.pop, 1) := by decide +kernel
theorem dX12_loadsNow_18 : decode cX12_loadsNow 18 = .ok (.aload_n 0, 1) := by decide +kernel
theorem dX12_loadsNow_19 : decode cX12_loadsNow 19 = .ok (.getfield 39, 3) := by decide +kernel
theorem dX12_loadsNow_22 : decode cX12_loadsNow 22 = .ok (.bipush 28, 2) := by decide +kernel
theorem dX12_loadsNow_24 : decode cX12_loadsNow 24 = .ok (.iaload, 1) := by decide +kernel
theorem dX12_loadsNow_25 : decode cX12_loadsNow 25 = .ok (.iload_n 2, 1) := by decide +kernel
theorem dX12_loadsNow_26 : decode cX12_loadsNow 26 = .ok (.isub, 1) := by decide +kernel
theorem dX12_loadsNow_27 : decode cX12_loadsNow 27 = .ok (.ireturn, 1) := by decide +kernel
theorem dX12_goes_0 : decode cX12_goes 0 = .ok (.aload_n 0, 1) := by decide +kernel
theorem dX12_goes_1 : decode cX12_goes 1 = .ok (.iconst 0, 1) := by decide +kernel
theorem dX12_goes_2 : decode cX12_goes 2 = .ok (.putfield 97, 3) := by decide +kernel
theorem dX12_goes_5 : decode cX12_goes 5 = .ok (.aload_n 0, 1) := by decide +kernel
theorem dX12_goes_6 : decode cX12_goes 6 = .ok (.invokevirtual 356, 3) := by decide +kernel
theorem dX12_goes_9 : decode cX12_goes 9 = .ok (.aload_n 0, 1) := by decide +kernel
theorem dX12_goes_10 : decode cX12_goes 10 = .ok (.aload_n 0, 1) := by decide +kernel
theorem dX12_goes_11 : decode cX12_goes 11 = .ok (.getfield 39, 3) := by decide +kernel
theorem dX12_goes_14 : decode cX12_goes 14 = .ok (.iconst 0, 1) := by decide +kernel
theorem dX12_goes_15 : decode cX12_goes 15 = .ok (.invokevirtual 295, 3) := by decide +kernel
theorem dX12_goes_18 : decode cX12_goes 18 = .ok (.istore_n 1, 1) := by decide +kernel
theorem dX12_goes_19 : decode cX12_goes 19 = .ok (.iconst (-1), 1) := by decide +kernel
theorem dX12_goes_20 : decode cX12_goes 20 = .ok (.istore_n 2, 1) := by decide +kernel
theorem dX12_goes_21 : decode cX12_goes 21 = .ok (.iconst 0, 1) := by decide +kernel
theorem dX12_goes_22 : decode cX12_goes 22 = .ok (.istore_n 3, 1) := by decide +kernel
theorem dX12_goes_23 : decode cX12_goes 23 = .ok (.iconst 0, 1) := by decide +kernel
theorem dX12_goes_24 : decode cX12_goes 24 = .ok (.istore 4, 2) := by decide +kernel
theorem dX12_goes_26 : decode cX12_goes 26 = .ok (.iload 4, 2) := by decide +kernel
theorem dX12_goes_28 : decode cX12_goes 28 = .ok (.aload_n 0, 1) := by decide +kernel
theorem dX12_goes_29 : decode cX12_goes 29 = .ok (.getfield 13, 3) := by decide +kernel
theorem dX12_goes_32 : decode cX12_goes 32 = .ok (.if_icmp .ge 39, 3) := by decide +kernel
theorem dX12_goes_35 : decode cX12_goes 35 = .ok (.aload_n 0, 1) := by decide +kernel
theorem dX12_goes_36 : decode cX12_goes 36 = .ok (.getfield 63, 3) := by decide +kernel
theorem dX12_goes_39 : decode cX12_goes 39 = .ok (.iload 4, 2) := by decide +kernel
theorem dX12_goes_41 : decode cX12_goes 41 = .ok (.iaload, 1) := by decide +kernel
theorem dX12_goes_42 : decode cX12_goes 42 = .ok (.iload_n 3, 1) := by decide +kernel
theorem dX12_goes_43 : decode cX12_goes 43 = .ok (.if_icmp .le 8, 3) := by decide +kernel
theorem dX12_goes_46 : decode cX12_goes 46 = .ok (.iload 4, 2) := by decide +kernel
theorem dX12_goes_48 : decode cX12_goes 48 = .ok (.goto 4, 3) := by decide +kernel
theorem dX12_goes_51 : decode cX12_goes 51 = .ok (.iload_n 2, 1) := by decide +kernel
theorem dX12_goes_52 : decode cX12_goes 52 = .ok (.istore_n 2, 1) := by decide +kernel
theorem dX12_goes_53 : decode cX12_goes 53 = .ok (.iload_n 3, 1) := by decide +kernel
theorem dX12_goes_54 : decode cX12_goes 54 = .ok (.aload_n 0, 1) := by decide +kernel
theorem dX12_goes_55 : decode cX12_goes 55 = .ok (.getfield 63, 3) := by decide +kernel
theorem dX12_goes_58 : decode cX12_goes 58 = .ok (.iload 4, 2) := by decide +kernel
theorem dX12_goes_60 : decode cX12_goes 60 = .ok (.iaload, 1) := by decide +kernel
theorem dX12_goes_61 : decode cX12_goes 61 = .ok (.invokestatic 244, 3) := by decide +kernel
theorem dX12_goes_64 : decode cX12_goes 64 = .ok (.istore_n 3, 1) := by decide +kernel
theorem dX12_goes_65 : decode cX12_goes 65 = .ok (.iinc 4 1, 3) := by decide +kernel
theorem dX12_goes_68 : decode cX12_goes 68 = .ok (.goto (-42), 3) := by decide +kernel
theorem dX12_goes_71 : decode cX12_goes 71 = .ok (.aload_n 0, 1) := by decide +kernel
theorem dX12_goes_72 : decode cX12_goes 72 = .ok (.iconst 0, 1) := by decide +kernel
theorem dX12_goes_73 : decode cX12_goes 73 = .ok (.putfield 104, 3) := by decide +kernel
theorem dX12_goes_76 : decode cX12_goes 76 = .ok (.aload_n 0, 1) := by decide +kernel
theorem dX12_goes_77 : decode cX12_goes 77 = .ok (.aload_n 0, 1) := by decide +kernel
theorem dX12_goes_78 : decode cX12_goes 78 = .ok (.getfield 39, 3) := by decide +kernel
theorem dX12_goes_81 : decode cX12_goes 81 = .ok (.bipush 28, 2) := by decide +kernel
theorem dX12_goes_83 : decode cX12_goes 83 = .ok (.iaload, 1) := by decide +kernel
theorem dX12_goes_84 : decode cX12_goes 84 = .ok (.aload_n 0, 1) := by decide +kernel
theorem dX12_goes_85 : decode cX12_goes 85 = .ok (.getfield 36, 3) := by decide +kernel
theorem dX12_goes_88 : decode cX12_goes 88 = .ok (.bipush 28, 2) := by decide +kernel
theorem dX12_goes_90 : decode cX12_goes 90 = .ok (.iaload, 1) := by decide +kernel
theorem dX12_goes_91 : decode cX12_goes 91 = .ok (.isub, 1) := by decide +kernel
theorem dX12_goes_92 : decode cX12_goes 92 = .ok (.i2l, 1) := by decide +kernel
theorem dX12_goes_93 : decode cX12_goes 93 = .ok (.invokevirtual 333, 3) := by decide +kernel
theorem dX12_goes_96 : decode cX12_goes 96 = .ok (.aload_n 0, 1) := by decide +kernel
theorem dX12_goes_97 : decode cX12_goes 97 = .ok (.iload_n 2, 1) := by decide +kernel
theorem dX12_goes_98 : decode cX12_goes 98 = .ok (.i2l, 1) := by decide +kernel
theorem dX12_goes_99 : decode cX12_goes 99 = .ok (.invokevirtual 333, 3) := by decide +kernel
theorem dX12_goes_102 : decode cX12_goes 102 = .ok (.iload_n 1, 1) := by decide +kernel
theorem dX12_goes_103 : decode cX12_goes 103 = .ok (.ireturn, 1) := by decide +kernel
theorem dX12_ahead_0 : decode cX12_ahead 0 = .ok (.aload_n 0, 1) := by decide +kernel
theorem dX12_ahead_1 : decode cX12_ahead 1 = .ok (.iconst 0, 1) := by decide +kernel
theorem dX12_ahead_2 : decode cX12_ahead 2 = .ok (.putfield 97, 3) := by decide +kernel
theorem dX12_ahead_5 : decode cX12_ahead 5 = .ok (.iload_n 1, 1) := by decide +kernel
theorem dX12_ahead_6 : decode cX12_ahead 6 = .ok (.i2l, 1) := by decide +kernel
theorem dX12_ahead_7 : decode cX12_ahead 7 = .ok (.lconst 0, 1) := by decide +kernel
theorem dX12_ahead_8 : decode cX12_ahead 8 = .ok (.ldc2_w 301, 3) := by decide +kernel
theorem dX12_ahead_11 : decode cX12_ahead 11 = .ok (.invokestatic 107, 3) := by decide +kernel
theorem dX12_ahead_14 : decode cX12_ahead 14 = .ok (.ifCond .ne 5, 3) := by decide +kernel
theorem dX12_ahead_17 : decode cX12_ahead 17 = .ok (.iconst (-1), 1) := by decide +kernel
theorem dX12_ahead_18 : decode cX12_ahead 18 = .ok (.ireturn, 1) := by decide +kernel
theorem dX12_ahead_19 : decode cX12_ahead 19 = .ok (.aload_n 0, 1) := by decide +kernel
theorem dX12_ahead_20 : decode cX12_ahead 20 = .ok (.invokevirtual 356, 3) := by decide +kernel
theorem dX12_ahead_23 : decode cX12_ahead 23 = .ok (.iconst 0, 1) := by decide +kernel
theorem dX12_ahead_24 : decode cX12_ahead 24 = .ok (.istore_n 2, 1) := by decide +kernel
theorem dX12_ahead_25 : decode cX12_ahead 25 = .ok (.iconst 0, 1) := by decide +kernel
theorem dX12_ahead_26 : decode cX12_ahead 26 = .ok (.istore_n 3, 1) := by decide +kernel
theorem dX12_ahead_27 : decode cX12_ahead 27 = .ok (.iload_n 3, 1) := by decide +kernel
theorem dX12_ahead_28 : decode cX12_ahead 28 = .ok (.iload_n 1, 1) := by decide +kernel
theorem dX12_ahead_29 : decode cX12_ahead 29 = .ok (.if_icmp .ge 31, 3) := by decide +kernel
theorem dX12_ahead_32 : decode cX12_ahead 32 = .ok (.iload_n 2, 1) := by decide +kernel
theorem dX12_ahead_33 : decode cX12_ahead 33 = .ok (.aload_n 0, 1) := by decide +kernel
theorem dX12_ahead_34 : decode cX12_ahead 34 = .ok (.aload_n 0, 1) := by decide +kernel
theorem dX12_ahead_35 : decode cX12_ahead 35 = .ok (.getfield 39, 3) := by decide +kernel
theorem dX12_ahead_38 : decode cX12_ahead 38 = .ok (.invokevirtual 298, 3) := by decide +kernel
theorem dX12_ahead_41 : decode cX12_ahead 41 = .ok (.ifCond .ne 7, 3) := by decide +kernel
theorem dX12_ahead_44 : decode cX12_ahead 44 = .ok (.iconst 1, 1) := by decide +kernel
theorem dX12_ahead_45 : decode cX12_ahead 45 = .ok (.goto 4, 3) := by decide +kernel
theorem dX12_ahead_48 : decode cX12_ahead 48 = .ok (.iconst 0, 1) := by decide +kernel
theorem dX12_ahead_49 : decode cX12_ahead 49 = .ok (.invokestatic 136, 3) := by decide +kernel
theorem dX12_ahead_52 : decode cX12_ahead 52 = .ok (.iadd, 1) := by decide +kernel
theorem dX12_ahead_53 : decode cX12_ahead 53 = .ok (.istore_n 2, 1) := by decide +kernel
theorem dX12_ahead_54 : decode cX12_ahead 54 = .ok (.iinc 3 1, 3) := by decide +kernel
theorem dX12_ahead_57 : decode cX12_ahead 57 = .ok (.goto (-30), 3) := by decide +kernel
theorem dX12_ahead_60 : decode cX12_ahead 60 = .ok (.aload_n 0, 1) := by decide +kernel
theorem dX12_ahead_61 : decode cX12_ahead 61 = .ok (.iconst 0, 1) := by decide +kernel
theorem dX12_ahead_62 : decode cX12_ahead 62 = .ok (.putfield 104, 3) := by decide +kernel
theorem dX12_ahead_65 : decode cX12_ahead 65 = .ok (.aload_n 0, 1) := by decide +kernel
theorem dX12_ahead_66 : decode cX12_ahead 66 = .ok (.aload_n 0, 1) := by decide +kernel
theorem dX12_ahead_67 : decode cX12_ahead 67 = .ok (.aload_n 0, 1) := by decide +kernel
theorem dX12_ahead_68 : decode cX12_ahead 68 = .ok (.getfield 39, 3) := by decide +kernel
theorem dX12_ahead_71 : decode cX12_ahead 71 = .ok (.invokevirtual 337, 3) := by decide +kernel
theorem dX12_ahead_74 : decode cX12_ahead 74 = .ok (.i2l, 1) := by decide +kernel
theorem dX12_ahead_75 : decode cX12_ahead 75 = .ok (.invokevirtual 333, 3) := by decide +kernel
theorem dX12_ahead_78 : decode cX12_ahead 78 = .ok (.aload_n 0, 1) := by decide +kernel
theorem dX12_ahead_79 : decode cX12_ahead 79 = .ok (.iload_n 2, 1) := by decide +kernel
theorem dX12_ahead_80 : decode cX12_ahead 80 = .ok (.i2l, 1) := by decide +kernel
theorem dX12_ahead_81 : decode cX12_ahead 81 = .ok (.invokevirtual 333, 3) := by decide +kernel
theorem dX12_ahead_84 : decode cX12_ahead 84 = .ok (.aload_n 0, 1) := by decide +kernel
theorem dX12_ahead_85 : decode cX12_ahead 85 = .ok (.getfield 39, 3) := by decide +kernel
theorem dX12_ahead_88 : decode cX12_ahead 88 = .ok (.bipush 28, 2) := by decide +kernel
theorem dX12_ahead_90 : decode cX12_ahead 90 = .ok (.iaload, 1) := by decide +kernel
theorem dX12_ahead_91 : decode cX12_ahead 91 = .ok (.aload_n 0, 1) := by decide +kernel
theorem dX12_ahead_92 : decode cX12_ahead 92 = .ok (.getfield 36, 3) := by decide +kernel
theorem dX12_ahead_95 : decode cX12_ahead 95 = .ok (.bipush 28, 2) := by decide +kernel
theorem dX12_ahead_97 : decode cX12_ahead 97 = .ok (.iaload, 1) := by decide +kernel
theorem dX12_ahead_98 : decode cX12_ahead 98 = .ok (.isub, 1) := by decide +kernel
theorem dX12_ahead_99 : decode cX12_ahead 99 = .ok (.ireturn, 1) := by decide +kernel
theorem dX12_holds_0 : decode cX12_holds 0 = .ok (.aload_n 0, 1) := by decide +kernel
theorem dX12_holds_1 : decode cX12_holds 1 = .ok (.iconst 0, 1) := by decide +kernel
theorem dX12_holds_2 : decode cX12_holds 2 = .ok (.putfield 97, 3) := by decide +kernel
theorem dX12_holds_5 : decode cX12_holds 5 = .ok (.aload_n 0, 1) := by decide +kernel
theorem dX12_holds_6 : decode cX12_holds 6 = .ok (.invokevirtual 356, 3) := by decide +kernel
theorem dX12_holds_9 : decode cX12_holds 9 = .ok (.iconst 0, 1) := by decide +kernel
theorem dX12_holds_10 : decode cX12_holds 10 = .ok (.istore_n 1, 1) := by decide +kernel
theorem dX12_holds_11 : decode cX12_holds 11 = .ok (.iload_n 1, 1) := by decide +kernel
theorem dX12_holds_12 : decode cX12_holds 12 = .ok (.bipush 99, 2) := by decide +kernel
theorem dX12_holds_14 : decode cX12_holds 14 = .ok (.if_icmp .ge 35, 3) := by decide +kernel
theorem dX12_holds_17 : decode cX12_holds 17 = .ok (.aload_n 0, 1) := by decide +kernel
theorem dX12_holds_18 : decode cX12_holds 18 = .ok (.aload_n 0, 1) := by decide +kernel
theorem dX12_holds_19 : decode cX12_holds 19 = .ok (.getfield 39, 3) := by decide +kernel
theorem dX12_holds_22 : decode cX12_holds 22 = .ok (.invokevirtual 298, 3) := by decide +kernel
theorem dX12_holds_25 : decode cX12_holds 25 = .ok (.istore_n 2, 1) := by decide +kernel
theorem dX12_holds_26 : decode cX12_holds 26 = .ok (.iload_n 2, 1) := by decide +kernel
theorem dX12_holds_27 : decode cX12_holds 27 = .ok (.ifCond .eq 16, 3) := by decide +kernel
theorem dX12_holds_30 : decode cX12_holds 30 = .ok (.aload_n 0, 1) := by decide +kernel
theorem dX12_holds_31 : decode cX12_holds 31 = .ok (.iconst 0, 1) := by decide +kernel
theorem dX12_holds_32 : decode cX12_holds 32 = .ok (.putfield 104, 3) := by decide +kernel
theorem dX12_holds_35 : decode cX12_holds 35 = .ok (.aload_n 0, 1) := by decide +kernel
theorem dX12_holds_36 : decode cX12_holds 36 = .ok (.iload_n 2, 1) := by decide +kernel
theorem dX12_holds_37 : decode cX12_holds 37 = .ok (.i2l, 1) := by decide +kernel
theorem dX12_holds_38 : decode cX12_holds 38 = .ok (.invokevirtual 333, 3) := by decide +kernel
theorem dX12_holds_41 : decode cX12_holds 41 = .ok (.iload_n 1, 1) := by decide +kernel
theorem dX12_holds_42 : decode cX12_holds 42 = .ok (.ireturn, 1) := by decide +kernel
theorem dX12_holds_43 : decode cX12_holds 43 = .ok (.iinc 1 1, 3) := by decide +kernel
theorem dX12_holds_46 : decode cX12_holds 46 = .ok (.goto (-35), 3) := by decide +kernel
theorem dX12_holds_49 : decode cX12_holds 49 = .ok (.bipush (-2), 2) := by decide +kernel
theorem dX12_holds_51 : decode cX12_holds 51 = .ok (.ireturn, 1) := by decide +kernel
theorem dX12_loadsAt_0 : decode cX12_loadsAt 0 = .ok (.aload_n 0, 1) := by decide +kernel
theorem dX12_loadsAt_1 : decode cX12_loadsAt 1 = .ok (.invokevirtual 356, 3) := by decide +kernel
theorem dX12_loadsAt_4 : decode cX12_loadsAt 4 = .ok (.aload_n 0, 1) := by decide +kernel
theorem dX12_loadsAt_5 : decode cX12_loadsAt 5 = .ok (.getfield 39, 3) := by decide +kernel
theorem dX12_loadsAt_8 : decode cX12_loadsAt 8 = .ok (.bipush 26, 2) := by decide +kernel
theorem dX12_loadsAt_10 : decode cX12_loadsAt 10 = .ok (.iload_n 1, 1) := by decide +kernel
theorem dX12_loadsAt_11 : decode cX12_loadsAt 11 = .ok (.iastore, 1) := by decide +kernel
theorem dX12_loadsAt_12 : decode cX12_loadsAt 12 = .ok (.aload_n 0, 1) := by decide +kernel
theorem dX12_loadsAt_13 : decode cX12_loadsAt 13 = .ok (.iconst 0, 1) := by decide +kernel
theorem dX12_loadsAt_14 : decode cX12_loadsAt 14 = .ok (.invokevirtual 359, 3) := by decide +kernel
theorem dX12_loadsAt_17 : decode cX12_loadsAt 17 = .ok (.ireturn, 1) := by decide +kernel
theorem dX12_keeps_0 : decode cX12_keeps 0 = .ok (.aload_n 0, 1) := by decide +kernel
theorem dX12_keeps_1 : decode cX12_keeps 1 = .ok (.iconst 0, 1) := by decide +kernel
theorem dX12_keeps_2 : decode cX12_keeps 2 = .ok (.putfield 97, 3) := by decide +kernel
theorem dX12_keeps_5 : decode cX12_keeps 5 = .ok (.bipush 99, 2) := by decide +kernel
theorem dX12_keeps_7 : decode cX12_keeps 7 = .ok (.istore_n 1, 1) := by decide +kernel
theorem dX12_keeps_8 : decode cX12_keeps 8 = .ok (.iload_n 1, 1) := by decide +kernel
theorem dX12_keeps_9 : decode cX12_keeps 9 = .ok (.ifCond .le 17, 3) := by decide +kernel
theorem dX12_keeps_12 : decode cX12_keeps 12 = .ok (.aload_n 0, 1) := by decide +kernel
theorem dX12_keeps_13 : decode cX12_keeps 13 = .ok (.iload_n 1, 1) := by decide +kernel
theorem dX12_keeps_14 : decode cX12_keeps 14 = .ok (.invokevirtual 362, 3) := by decide +kernel
theorem dX12_keeps_17 : decode cX12_keeps 17 = .ok (.ifCond .le 9, 3) := by decide +kernel
theorem dX12_keeps_20 : decode cX12_keeps 20 = .ok (.iinc 1 (-1), 3) := by decide +kernel
theorem dX12_keeps_23 : decode cX12_keeps 23 = .ok (.goto (-15), 3) := by decide +kernel
theorem dX12_keeps_26 : decode cX12_keeps 26 = .ok (.iload_n 1, 1) := by decide +kernel
theorem dX12_keeps_27 : decode cX12_keeps 27 = .ok (.ireturn, 1) := by decide +kernel
theorem dX12_poorer_0 : decode cX12_poorer 0 = .ok (.iconst 0, 1) := by decide +kernel
theorem dX12_poorer_1 : decode cX12_poorer 1 = .ok (.istore_n 2, 1) := by decide +kernel
theorem dX12_poorer_2 : decode cX12_poorer 2 = .ok (.iconst 0, 1) := by decide +kernel
theorem dX12_poorer_3 : decode cX12_poorer 3 = .ok (.istore_n 3, 1) := by decide +kernel
theorem dX12_poorer_4 : decode cX12_poorer 4 = .ok (.iload_n 3, 1) := by decide +kernel
theorem dX12_poorer_5 : decode cX12_poorer 5 = .ok (.aload_n 0, 1) := by decide +kernel
theorem dX12_poorer_6 : decode cX12_poorer 6 = .ok (.getfield 200, 3) := by decide +kernel
theorem dX12_poorer_9 : decode cX12_poorer 9 = .ok (.if_icmp .ge 32, 3) := by decide +kernel
theorem dX12_poorer_12 : decode cX12_poorer 12 = .ok (.iload_n 2, 1) := by decide +kernel
theorem dX12_poorer_13 : decode cX12_poorer 13 = .ok (.aload_n 0, 1) := by decide +kernel
theorem dX12_poorer_14 : decode cX12_poorer 14 = .ok (.getfield 33, 3) := by decide +kernel
theorem dX12_poorer_17 : decode cX12_poorer 17 = .ok (.iload_n 3, 1) := by decide +kernel
theorem dX12_poorer_18 : decode cX12_poorer 18 = .ok (.iaload, 1) := by decide +kernel
theorem dX12_poorer_19 : decode cX12_poorer 19 = .ok (.iload_n 1, 1) := by decide +kernel
theorem dX12_poorer_20 : decode cX12_poorer 20 = .ok (.if_icmp .ge 12, 3) := by decide +kernel
theorem dX12_poorer_23 : decode cX12_poorer 23 = .ok (.aload_n 0, 1) := by decide +kernel
theorem dX12_poorer_24 : decode cX12_poorer 24 = .ok (.getfield 30, 3) := by decide +kernel
theorem dX12_poorer_27 : decode cX12_poorer 27 = .ok (.iload_n 3, 1) := by decide +kernel
theorem dX12_poorer_28 : decode cX12_poorer 28 = .ok (.iaload, 1) := by decide +kernel
theorem dX12_poorer_29 : decode cX12_poorer 29 = .ok (.goto 4, 3) := by decide +kernel
theorem dX12_poorer_32 : decode cX12_poorer 32 = .ok (.iconst 0, 1) := by decide +kernel
theorem dX12_poorer_33 : decode cX12_poorer 33 = .ok (.iadd, 1) := by decide +kernel
theorem dX12_poorer_34 : decode cX12_poorer 34 = .ok (.istore_n 2, 1) := by decide +kernel
theorem dX12_poorer_35 : decode cX12_poorer 35 = .ok (.iinc 3 1, 3) := by decide +kernel
theorem dX12_poorer_38 : decode cX12_poorer 38 = .ok (.goto (-34), 3) := by decide +kernel
theorem dX12_poorer_41 : decode cX12_poorer 41 = .ok (.iload_n 2, 1) := by decide +kernel
theorem dX12_poorer_42 : decode cX12_poorer 42 = .ok (.ireturn, 1) := by decide +kernel
theorem dX12_allPeople_0 : decode cX12_allPeople 0 = .ok (.aload_n 0, 1) := by decide +kernel
theorem dX12_allPeople_1 : decode cX12_allPeople 1 = .ok (.bipush 100, 2) := by decide +kernel
theorem dX12_allPeople_3 : decode cX12_allPeople 3 = .ok (.invokevirtual 365, 3) := by decide +kernel
theorem dX12_allPeople_6 : decode cX12_allPeople 6 = .ok (.ireturn, 1) := by decide +kernel
theorem dX12_tax_0 : decode cX12_tax 0 = .ok (.aload_n 0, 1) := by decide +kernel
theorem dX12_tax_1 : decode cX12_tax 1 = .ok (.iconst 0, 1) := by decide +kernel
theorem dX12_tax_2 : decode cX12_tax 2 = .ok (.putfield 97, 3) := by decide +kernel
theorem dX12_tax_5 : decode cX12_tax 5 = .ok (.iconst 0, 1) := by decide +kernel
theorem dX12_tax_6 : decode cX12_tax 6 = .ok (.istore_n 1, 1) := by decide +kernel
theorem dX12_tax_7 : decode cX12_tax 7 = .ok (.iconst (-1), 1) := by decide +kernel
theorem dX12_tax_8 : decode cX12_tax 8 = .ok (.istore_n 2, 1) := by decide +kernel
theorem dX12_tax_9 : decode cX12_tax 9 = .ok (.iconst 0, 1) := by decide +kernel
theorem dX12_tax_10 : decode cX12_tax 10 = .ok (.istore_n 3, 1) := by decide +kernel
theorem dX12_tax_11 : decode cX12_tax 11 = .ok (.iload_n 3, 1) := by decide +kernel
theorem dX12_tax_12 : decode cX12_tax 12 = .ok (.bipush 99, 2) := by decide +kernel
theorem dX12_tax_14 : decode cX12_tax 14 = .ok (.if_icmp .gt 68, 3) := by decide +kernel
theorem dX12_tax_17 : decode cX12_tax 17 = .ok (.iconst 0, 1) := by decide +kernel
theorem dX12_tax_18 : decode cX12_tax 18 = .ok (.aload_n 0, 1) := by decide +kernel
theorem dX12_tax_19 : decode cX12_tax 19 = .ok (.invokevirtual 368, 3) := by decide +kernel
theorem dX12_tax_22 : decode cX12_tax 22 = .ok (.aload_n 0, 1) := by decide +kernel
theorem dX12_tax_23 : decode cX12_tax 23 = .ok (.iload_n 3, 1) := by decide +kernel
theorem dX12_tax_24 : decode cX12_tax 24 = .ok (.invokevirtual 365, 3) := by decide +kernel
theorem dX12_tax_27 : decode cX12_tax 27 = .ok (.isub, 1) := by decide +kernel
theorem dX12_tax_28 : decode cX12_tax 28 = .ok (.aload_n 0, 1) := by decide +kernel
theorem dX12_tax_29 : decode cX12_tax 29 = .ok (.iload_n 3, 1) := by decide +kernel
theorem dX12_tax_30 : decode cX12_tax 30 = .ok (.invokevirtual 362, 3) := by decide +kernel
theorem dX12_tax_33 : decode cX12_tax 33 = .ok (.isub, 1) := by decide +kernel
theorem dX12_tax_34 : decode cX12_tax 34 = .ok (.invokestatic 244, 3) := by decide +kernel
theorem dX12_tax_37 : decode cX12_tax 37 = .ok (.istore 4, 2) := by decide +kernel
theorem dX12_tax_39 : decode cX12_tax 39 = .ok (.iconst 0, 1) := by decide +kernel
theorem dX12_tax_40 : decode cX12_tax 40 = .ok (.iload_n 3, 1) := by decide +kernel
theorem dX12_tax_41 : decode cX12_tax 41 = .ok (.aload_n 0, 1) := by decide +kernel
theorem dX12_tax_42 : decode cX12_tax 42 = .ok (.getfield 36, 3) := by decide +kernel
theorem dX12_tax_45 : decode cX12_tax 45 = .ok (.bipush 25, 2) := by decide +kernel
theorem dX12_tax_47 : decode cX12_tax 47 = .ok (.iaload, 1) := by decide +kernel
theorem dX12_tax_48 : decode cX12_tax 48 = .ok (.isub, 1) := by decide +kernel
theorem dX12_tax_49 : decode cX12_tax 49 = .ok (.invokestatic 244, 3) := by decide +kernel
theorem dX12_tax_52 : decode cX12_tax 52 = .ok (.iload 4, 2) := by decide +kernel
theorem dX12_tax_54 : decode cX12_tax 54 = .ok (.imul, 1) := by decide +kernel
theorem dX12_tax_55 : decode cX12_tax 55 = .ok (.istore 5, 2) := by decide +kernel
theorem dX12_tax_57 : decode cX12_tax 57 = .ok (.iload 5, 2) := by decide +kernel
theorem dX12_tax_59 : decode cX12_tax 59 = .ok (.iload_n 2, 1) := by decide +kernel
theorem dX12_tax_60 : decode cX12_tax 60 = .ok (.if_icmp .le 7, 3) := by decide +kernel
theorem dX12_tax_63 : decode cX12_tax 63 = .ok (.iload_n 3, 1) := by decide +kernel
theorem dX12_tax_64 : decode cX12_tax 64 = .ok (.goto 4, 3) := by decide +kernel
theorem dX12_tax_67 : decode cX12_tax 67 = .ok (.iload_n 1, 1) := by decide +kernel
theorem dX12_tax_68 : decode cX12_tax 68 = .ok (.istore_n 1, 1) := by decide +kernel
theorem dX12_tax_69 : decode cX12_tax 69 = .ok (.iload_n 2, 1) := by decide +kernel
theorem dX12_tax_70 : decode cX12_tax 70 = .ok (.iload 5, 2) := by decide +kernel
theorem dX12_tax_72 : decode cX12_tax 72 = .ok (.invokestatic 244, 3) := by decide +kernel
theorem dX12_tax_75 : decode cX12_tax 75 = .ok (.istore_n 2, 1) := by decide +kernel
theorem dX12_tax_76 : decode cX12_tax 76 = .ok (.iinc 3 1, 3) := by decide +kernel
theorem dX12_tax_79 : decode cX12_tax 79 = .ok (.goto (-68), 3) := by decide +kernel
theorem dX12_tax_82 : decode cX12_tax 82 = .ok (.aload_n 0, 1) := by decide +kernel
theorem dX12_tax_83 : decode cX12_tax 83 = .ok (.iconst 0, 1) := by decide +kernel
theorem dX12_tax_84 : decode cX12_tax 84 = .ok (.putfield 104, 3) := by decide +kernel
theorem dX12_tax_87 : decode cX12_tax 87 = .ok (.aload_n 0, 1) := by decide +kernel
theorem dX12_tax_88 : decode cX12_tax 88 = .ok (.iload_n 2, 1) := by decide +kernel
theorem dX12_tax_89 : decode cX12_tax 89 = .ok (.i2l, 1) := by decide +kernel
theorem dX12_tax_90 : decode cX12_tax 90 = .ok (.invokevirtual 333, 3) := by decide +kernel
theorem dX12_tax_93 : decode cX12_tax 93 = .ok (.aload_n 0, 1) := by decide +kernel
theorem dX12_tax_94 : decode cX12_tax 94 = .ok (.aload_n 0, 1) := by decide +kernel
theorem dX12_tax_95 : decode cX12_tax 95 = .ok (.iload_n 1, 1) := by decide +kernel
theorem dX12_tax_96 : decode cX12_tax 96 = .ok (.invokevirtual 365, 3) := by decide +kernel
theorem dX12_tax_99 : decode cX12_tax 99 = .ok (.i2l, 1) := by decide +kernel
theorem dX12_tax_100 : decode cX12_tax 100 = .ok (.invokevirtual 333, 3) := by decide +kernel
theorem dX12_tax_103 : decode cX12_tax 103 = .ok (.iload_n 1, 1) := by decide +kernel
theorem dX12_tax_104 : decode cX12_tax 104 = .ok (.ireturn, 1) := by decide +kernel
theorem dX12_without_0 : decode cX12_without 0 = .ok (.aload_n 0, 1) := by decide +kernel
theorem dX12_without_1 : decode cX12_without 1 = .ok (.iconst 0, 1) := by decide +kernel
theorem dX12_without_2 : decode cX12_without 2 = .ok (.putfield 97, 3) := by decide +kernel
theorem dX12_without_5 : decode cX12_without 5 = .ok (.iload_n 1, 1) := by decide +kernel
theorem dX12_without_6 : decode cX12_without 6 = .ok (.i2l, 1) := by decide +kernel
theorem dX12_without_7 : decode cX12_without 7 = .ok (.lconst 0, 1) := by decide +kernel
theorem dX12_without_8 : decode cX12_without 8 = .ok (.ldc2_w 301, 3) := by decide +kernel
theorem dX12_without_11 : decode cX12_without 11 = .ok (.invokestatic 107, 3) := by decide +kernel
theorem dX12_without_14 : decode cX12_without 14 = .ok (.ifCond .ne 5, 3) := by decide +kernel
theorem dX12_without_17 : decode cX12_without 17 = .ok (.iconst (-1), 1) := by decide +kernel
theorem dX12_without_18 : decode cX12_without 18 = .ok (.ireturn, 1) := by decide +kernel
theorem dX12_without_19 : decode cX12_without 19 = .ok (.aload_n 0, 1) := by decide +kernel
theorem dX12_without_20 : decode cX12_without 20 = .ok (.iload_n 1, 1) := by decide +kernel
theorem dX12_without_21 : decode cX12_without 21 = .ok (.invokevirtual 365, 3) := by decide +kernel
theorem dX12_without_24 : decode cX12_without 24 = .ok (.istore_n 2, 1) := by decide +kernel
theorem dX12_without_25 : decode cX12_without 25 = .ok (.iconst 0, 1) := by decide +kernel
theorem dX12_without_26 : decode cX12_without 26 = .ok (.istore_n 3, 1) := by decide +kernel
theorem dX12_without_27 : decode cX12_without 27 = .ok (.iconst 0, 1) := by decide +kernel
theorem dX12_without_28 : decode cX12_without 28 = .ok (.istore 4, 2) := by decide +kernel
theorem dX12_without_30 : decode cX12_without 30 = .ok (.iload 4, 2) := by decide +kernel
theorem dX12_without_32 : decode cX12_without 32 = .ok (.aload_n 0, 1) := by decide +kernel
theorem dX12_without_33 : decode cX12_without 33 = .ok (.getfield 200, 3) := by decide +kernel
theorem dX12_without_36 : decode cX12_without 36 = .ok (.if_icmp .ge 31, 3) := by decide +kernel
theorem dX12_without_39 : decode cX12_without 39 = .ok (.iload_n 3, 1) := by decide +kernel
theorem dX12_without_40 : decode cX12_without 40 = .ok (.aload_n 0, 1) := by decide +kernel
theorem dX12_without_41 : decode cX12_without 41 = .ok (.getfield 33, 3) := by decide +kernel
theorem dX12_without_44 : decode cX12_without 44 = .ok (.iload 4, 2) := by decide +kernel
theorem dX12_without_46 : decode cX12_without 46 = .ok (.iaload, 1) := by decide +kernel
theorem dX12_without_47 : decode cX12_without 47 = .ok (.iload_n 1, 1) := by decide +kernel
theorem dX12_without_48 : decode cX12_without 48 = .ok (.if_icmp .ge 10, 3) := by decide +kernel
theorem dX12_without_51 : decode cX12_without 51 = .ok (.iconst 1, 1) := by decide +kernel
theorem dX12_without_52 : decode cX12_without 52 = .ok (.iload 4, 2) := by decide +kernel
theorem dX12_without_54 : decode cX12_without 54 = .ok (.ishl, 1) := by decide +kernel
theorem dX12_without_55 : decode cX12_without 55 = .ok (.goto 4, 3) := by decide +kernel
theorem dX12_without_58 : decode cX12_without 58 = .ok (.iconst 0, 1) := by decide +kernel
theorem dX12_without_59 : decode cX12_without 59 = .ok (.ior, 1) := by decide +kernel
theorem dX12_without_60 : decode cX12_without 60 = .ok (.istore_n 3, 1) := by decide +kernel
theorem dX12_without_61 : decode cX12_without 61 = .ok (.iinc 4 1, 3) := by decide +kernel
theorem dX12_without_64 : decode cX12_without 64 = .ok (.goto (-34), 3) := by decide +kernel
theorem dX12_without_67 : decode cX12_without 67 = .ok (.iload_n 1, 1) := by decide +kernel
theorem dX12_without_68 : decode cX12_without 68 = .ok (.istore 4, 2) := by decide +kernel
theorem dX12_without_70 : decode cX12_without 70 = .ok (.aload_n 0, 1) := by decide +kernel
theorem dX12_without_71 : decode cX12_without 71 = .ok (.iload 4, 2) := by decide +kernel
theorem dX12_without_73 : decode cX12_without 73 = .ok (.invokevirtual 365, 3) := by decide +kernel
theorem dX12_without_76 : decode cX12_without 76 = .ok (.iload_n 2, 1) := by decide +kernel
theorem dX12_without_77 : decode cX12_without 77 = .ok (.iconst 2, 1) := by decide +kernel
theorem dX12_without_78 : decode cX12_without 78 = .ok (.idiv, 1) := by decide +kernel
theorem dX12_without_79 : decode cX12_without 79 = .ok (.if_icmp .le 9, 3) := by decide +kernel
theorem dX12_without_82 : decode cX12_without 82 = .ok (.iinc 4 (-1), 3) := by decide +kernel
theorem dX12_without_85 : decode cX12_without 85 = .ok (.goto (-15), 3) := by decide +kernel
theorem dX12_without_88 : decode cX12_without 88 = .ok (.aload_n 0, 1) := by decide +kernel
theorem dX12_without_89 : decode cX12_without 89 = .ok (.iconst 0, 1) := by decide +kernel
theorem dX12_without_90 : decode cX12_without 90 = .ok (.putfield 104, 3) := by decide +kernel
theorem dX12_without_93 : decode cX12_without 93 = .ok (.aload_n 0, 1) := by decide +kernel
theorem dX12_without_94 : decode cX12_without 94 = .ok (.iload_n 3, 1) := by decide +kernel
theorem dX12_without_95 : decode cX12_without 95 = .ok (.i2l, 1) := by decide +kernel
theorem dX12_without_96 : decode cX12_without 96 = .ok (.invokevirtual 333, 3) := by decide +kernel
theorem dX12_without_99 : decode cX12_without 99 = .ok (.aload_n 0, 1) := by decide +kernel
theorem dX12_without_100 : decode cX12_without 100 = .ok (.iload 4, 2) := by decide +kernel
theorem dX12_without_102 : decode cX12_without 102 = .ok (.i2l, 1) := by decide +kernel
theorem dX12_without_103 : decode cX12_without 103 = .ok (.invokevirtual 333, 3) := by decide +kernel
theorem dX12_without_106 : decode cX12_without 106 = .ok (.iload_n 2, 1) := by decide +kernel
theorem dX12_without_107 : decode cX12_without 107 = .ok (.ireturn, 1) := by decide +kernel
theorem dX12_stands_0 : decode cX12_stands 0 = .ok (.iload_n 1, 1) := by decide +kernel
theorem dX12_stands_1 : decode cX12_stands 1 = .ok (.aload_n 0, 1) := by decide +kernel
theorem dX12_stands_2 : decode cX12_stands 2 = .ok (.getfield 13, 3) := by decide +kernel
theorem dX12_stands_5 : decode cX12_stands 5 = .ok (.iconst 1, 1) := by decide +kernel
theorem dX12_stands_6 : decode cX12_stands 6 = .ok (.isub, 1) := by decide +kernel
theorem dX12_stands_7 : decode cX12_stands 7 = .ok (.if_icmp .ne 97, 3) := by decide +kernel
theorem dX12_stands_10 : decode cX12_stands 10 = .ok (.aload_n 0, 1) := by decide +kernel
theorem dX12_stands_11 : decode cX12_stands 11 = .ok (.getfield 75, 3) := by decide +kernel
theorem dX12_stands_14 : decode cX12_stands 14 = .ok (.iload_n 1, 1) := by decide +kernel
theorem dX12_stands_15 : decode cX12_stands 15 = .ok (.iload_n 2, 1) := by decide +kernel
theorem dX12_stands_16 : decode cX12_stands 16 = .ok (.iastore, 1) := by decide +kernel
theorem dX12_stands_17 : decode cX12_stands 17 = .ok (.aload_n 0, 1) := by decide +kernel
theorem dX12_stands_18 : decode cX12_stands 18 = .ok (.invokevirtual 356, 3) := by decide +kernel
theorem dX12_stands_21 : decode cX12_stands 21 = .ok (.iconst 0, 1) := by decide +kernel
theorem dX12_stands_22 : decode cX12_stands 22 = .ok (.istore_n 3, 1) := by decide +kernel
theorem dX12_stands_23 : decode cX12_stands 23 = .ok (.iload_n 3, 1) := by decide +kernel
theorem dX12_stands_24 : decode cX12_stands 24 = .ok (.aload_n 0, 1) := by decide +kernel
theorem dX12_stands_25 : decode cX12_stands 25 = .ok (.getfield 13, 3) := by decide +kernel
theorem dX12_stands_28 : decode cX12_stands 28 = .ok (.if_icmp .ge 24, 3) := by decide +kernel
theorem dX12_stands_31 : decode cX12_stands 31 = .ok (.aload_n 0, 1) := by decide +kernel
theorem dX12_stands_32 : decode cX12_stands 32 = .ok (.getfield 39, 3) := by decide +kernel
theorem dX12_stands_35 : decode cX12_stands 35 = .ok (.bipush 12, 2) := by decide +kernel
theorem dX12_stands_37 : decode cX12_stands 37 = .ok (.iload_n 3, 1) := by decide +kernel
theorem dX12_stands_38 : decode cX12_stands 38 = .ok (.iadd, 1) := by decide +kernel
theorem dX12_stands_39 : decode cX12_stands 39 = .ok (.aload_n 0, 1) := by decide +kernel
theorem dX12_stands_40 : decode cX12_stands 40 = .ok (.getfield 75, 3) := by decide +kernel
theorem dX12_stands_43 : decode cX12_stands 43 = .ok (.iload_n 3, 1) := by decide +kernel
theorem dX12_stands_44 : decode cX12_stands 44 = .ok (.iaload, 1) := by decide +kernel
theorem dX12_stands_45 : decode cX12_stands 45 = .ok (.iastore, 1) := by decide +kernel
theorem dX12_stands_46 : decode cX12_stands 46 = .ok (.iinc 3 1, 3) := by decide +kernel
theorem dX12_stands_49 : decode cX12_stands 49 = .ok (.goto (-26), 3) := by decide +kernel
theorem dX12_stands_52 : decode cX12_stands 52 = .ok (.aload_n 0, 1) := by decide +kernel
theorem dX12_stands_53 : decode cX12_stands 53 = .ok (.iconst 0, 1) := by decide +kernel
theorem dX12_stands_54 : decode cX12_stands 54 = .ok (.invokevirtual 359, 3) := by decide +kernel
theorem dX12_stands_57 : decode cX12_stands 57 = .ok (.istore_n 3, 1) := by decide +kernel
theorem dX12_stands_58 : decode cX12_stands 58 = .ok (.iload_n 3, 1) := by decide +kernel
theorem dX12_stands_59 : decode cX12_stands 59 = .ok (.aload_n 0, 1) := by decide +kernel
theorem dX12_stands_60 : decode cX12_stands 60 = .ok (.getfield 371, 3) := by decide +kernel
theorem dX12_stands_63 : decode cX12_stands 63 = .ok (.if_icmp .ge 40, 3) := by decide +kernel
theorem dX12_stands_66 : decode cX12_stands 66 = .ok (.aload_n 0, 1) := by decide +kernel
theorem dX12_stands_67 : decode cX12_stands 67 = .ok (.iload_n 3, 1) := by decide +kernel
theorem dX12_stands_68 : decode cX12_stands 68 = .ok (.putfield 371, 3) := by decide +kernel
theorem dX12_stands_71 : decode cX12_stands 71 = .ok (.iconst 0, 1) := by decide +kernel
theorem dX12_stands_72 : decode cX12_stands 72 = .ok (.istore 4, 2) := by decide +kernel
theorem dX12_stands_74 : decode cX12_stands 74 = .ok (.iload 4, 2) := by decide +kernel
theorem dX12_stands_76 : decode cX12_stands 76 = .ok (.aload_n 0, 1) := by decide +kernel
theorem dX12_stands_77 : decode cX12_stands 77 = .ok (.getfield 13, 3) := by decide +kernel
theorem dX12_stands_80 : decode cX12_stands 80 = .ok (.if_icmp .ge 23, 3) := by decide +kernel
theorem dX12_stands_83 : decode cX12_stands 83 = .ok (.aload_n 0, 1) := by decide +kernel
theorem dX12_stands_84 : decode cX12_stands 84 = .ok (.getfield 78, 3) := by decide +kernel
theorem dX12_stands_87 : decode cX12_stands 87 = .ok (.iload 4, 2) := by decide +kernel
theorem dX12_stands_89 : decode cX12_stands 89 = .ok (.aload_n 0, 1) := by decide +kernel
theorem dX12_stands_90 : decode cX12_stands 90 = .ok (.getfield 75, 3) := by decide +kernel
theorem dX12_stands_93 : decode cX12_stands 93 = .ok (.iload 4, 2) := by decide +kernel
theorem dX12_stands_95 : decode cX12_stands 95 = .ok (.iaload, 1) := by decide +kernel
theorem dX12_stands_96 : decode cX12_stands 96 = .ok (.iastore, 1) := by decide +kernel
theorem dX12_stands_97 : decode cX12_stands 97 = .ok (.iinc 4 1, 3) := by decide +kernel
theorem dX12_stands_100 : decode cX12_stands 100 = .ok (.goto (-26), 3) := by decide +kernel
theorem dX12_stands_103 : decode cX12_stands 103 = .ok (.return_, 1) := by decide +kernel
theorem dX12_stands_104 : decode cX12_stands 104 = .ok (.iconst 0, 1) := by decide +kernel
theorem dX12_stands_105 : decode cX12_stands 105 = .ok (.istore_n 3, 1) := by decide +kernel
theorem dX12_stands_106 : decode cX12_stands 106 = .ok (.iload_n 3, 1) := by decide +kernel
theorem dX12_stands_107 : decode cX12_stands 107 = .ok (.iload_n 2, 1) := by decide +kernel
theorem dX12_stands_108 : decode cX12_stands 108 = .ok (.if_icmp .gt 26, 3) := by decide +kernel
theorem dX12_stands_111 : decode cX12_stands 111 = .ok (.aload_n 0, 1) := by decide +kernel
theorem dX12_stands_112 : decode cX12_stands 112 = .ok (.getfield 75, 3) := by decide +kernel
theorem dX12_stands_115 : decode cX12_stands 115 = .ok (.iload_n 1, 1) := by decide +kernel
theorem dX12_stands_116 : decode cX12_stands 116 = .ok (.iload_n 3, 1) := by decide +kernel
theorem dX12_stands_117 : decode cX12_stands 117 = .ok (.iastore, 1) := by decide +kernel
theorem dX12_stands_118 : decode cX12_stands 118 = .ok (.aload_n 0, 1) := by decide +kernel
theorem dX12_stands_119 : decode cX12_stands 119 = .ok (.iload_n 1, 1) := by decide +kernel
theorem dX12_stands_120 : decode cX12_stands 120 = .ok (.iconst 1, 1) := by decide +kernel
theorem dX12_stands_121 : decode cX12_stands 121 = .ok (.iadd, 1) := by decide +kernel
theorem dX12_stands_122 : decode cX12_stands 122 = .ok (.iload_n 2, 1) := by decide +kernel
theorem dX12_stands_123 : decode cX12_stands 123 = .ok (.iload_n 3, 1) := by decide +kernel
theorem dX12_stands_124 : decode cX12_stands 124 = .ok (.isub, 1) := by decide +kernel
theorem dX12_stands_125 : decode cX12_stands 125 = .ok (.invokevirtual 374, 3) := by decide +kernel
theorem dX12_stands_128 : decode cX12_stands 128 = .ok (.iinc 3 1, 3) := by decide +kernel
theorem dX12_stands_131 : decode cX12_stands 131 = .ok (.goto (-25), 3) := by decide +kernel
theorem dX12_stands_134 : decode cX12_stands 134 = .ok (.return_, 1) := by decide +kernel
theorem dX12_beats_0 : decode cX12_beats 0 = .ok (.aload_n 0, 1) := by decide +kernel
theorem dX12_beats_1 : decode cX12_beats 1 = .ok (.iconst 0, 1) := by decide +kernel
theorem dX12_beats_2 : decode cX12_beats 2 = .ok (.putfield 97, 3) := by decide +kernel
theorem dX12_beats_5 : decode cX12_beats 5 = .ok (.iload_n 1, 1) := by decide +kernel
theorem dX12_beats_6 : decode cX12_beats 6 = .ok (.i2l, 1) := by decide +kernel
theorem dX12_beats_7 : decode cX12_beats 7 = .ok (.lconst 0, 1) := by decide +kernel
theorem dX12_beats_8 : decode cX12_beats 8 = .ok (.ldc2_w 378, 3) := by decide +kernel
theorem dX12_beats_11 : decode cX12_beats 11 = .ok (.invokestatic 107, 3) := by decide +kernel
theorem dX12_beats_14 : decode cX12_beats 14 = .ok (.ifCond .ne 5, 3) := by decide +kernel
theorem dX12_beats_17 : decode cX12_beats 17 = .ok (.iconst (-1), 1) := by decide +kernel
theorem dX12_beats_18 : decode cX12_beats 18 = .ok (.ireturn, 1) := by decide +kernel
theorem dX12_beats_19 : decode cX12_beats 19 = .ok (.aload_n 0, 1) := by decide +kernel
theorem dX12_beats_20 : decode cX12_beats 20 = .ok (.ldc_w 380, 3) := by decide +kernel
theorem dX12_beats_23 : decode cX12_beats 23 = .ok (.putfield 371, 3) := by decide +kernel
theorem dX12_beats_26 : decode cX12_beats 26 = .ok (.aload_n 0, 1) := by decide +kernel
theorem dX12_beats_27 : decode cX12_beats 27 = .ok (.iconst 0, 1) := by decide +kernel
theorem dX12_beats_28 : decode cX12_beats 28 = .ok (.iload_n 1, 1) := by decide +kernel
theorem dX12_beats_29 : decode cX12_beats 29 = .ok (.invokevirtual 374, 3) := by decide +kernel
theorem dX12_beats_32 : decode cX12_beats 32 = .ok (.aload_n 0, 1) := by decide +kernel
theorem dX12_beats_33 : decode cX12_beats 33 = .ok (.iconst 0, 1) := by decide +kernel
theorem dX12_beats_34 : decode cX12_beats 34 = .ok (.putfield 104, 3) := by decide +kernel
theorem dX12_beats_37 : decode cX12_beats 37 = .ok (.iconst 0, 1) := by decide +kernel
theorem dX12_beats_38 : decode cX12_beats 38 = .ok (.istore_n 2, 1) := by decide +kernel
theorem dX12_beats_39 : decode cX12_beats 39 = .ok (.iload_n 2, 1) := by decide +kernel
theorem dX12_beats_40 : decode cX12_beats 40 = .ok (.aload_n 0, 1) := by decide +kernel
theorem dX12_beats_41 : decode cX12_beats 41 = .ok (.getfield 13, 3) := by decide +kernel
theorem dX12_beats_44 : decode cX12_beats 44 = .ok (.if_icmp .ge 20, 3) := by decide +kernel
theorem dX12_beats_47 : decode cX12_beats 47 = .ok (.aload_n 0, 1) := by decide +kernel
theorem dX12_beats_48 : decode cX12_beats 48 = .ok (.aload_n 0, 1) := by decide +kernel
theorem dX12_beats_49 : decode cX12_beats 49 = .ok (.getfield 78, 3) := by decide +kernel
theorem dX12_beats_52 : decode cX12_beats 52 = .ok (.iload_n 2, 1) := by decide +kernel
theorem dX12_beats_53 : decode cX12_beats 53 = .ok (.iaload, 1) := by decide +kernel
theorem dX12_beats_54 : decode cX12_beats 54 = .ok (.i2l, 1) := by decide +kernel
theorem dX12_beats_55 : decode cX12_beats 55 = .ok (.invokevirtual 333, 3) := by decide +kernel
theorem dX12_beats_58 : decode cX12_beats 58 = .ok (.iinc 2 1, 3) := by decide +kernel
theorem dX12_beats_61 : decode cX12_beats 61 = .ok (.goto (-22), 3) := by decide +kernel
theorem dX12_beats_64 : decode cX12_beats 64 = .ok (.aload_n 0, 1) := by decide +kernel
theorem dX12_beats_65 : decode cX12_beats 65 = .ok (.getfield 371, 3) := by decide +kernel
theorem dX12_beats_68 : decode cX12_beats 68 = .ok (.ireturn, 1) := by decide +kernel
theorem dX12_loadsIn_0 : decode cX12_loadsIn 0 = .ok (.aload_n 0, 1) := by decide +kernel
theorem dX12_loadsIn_1 : decode cX12_loadsIn 1 = .ok (.getfield 39, 3) := by decide +kernel
theorem dX12_loadsIn_4 : decode cX12_loadsIn 4 = .ok (.bipush 28, 2) := by decide +kernel
theorem dX12_loadsIn_6 : decode cX12_loadsIn 6 = .ok (.iaload, 1) := by decide +kernel
theorem dX12_loadsIn_7 : decode cX12_loadsIn 7 = .ok (.istore_n 2, 1) := by decide +kernel
theorem dX12_loadsIn_8 : decode cX12_loadsIn 8 = .ok (.aload_n 0, 1) := by decide +kernel
theorem dX12_loadsIn_9 : decode cX12_loadsIn 9 = .ok (.aload_n 0, 1) := by decide +kernel
theorem dX12_loadsIn_10 : decode cX12_loadsIn 10 = .ok (.getfield 39, 3) := by decide +kernel
theorem dX12_loadsIn_13 : decode cX12_loadsIn 13 = .ok (.iload_n 1, 1) := by decide +kernel
theorem dX12_loadsIn_14 : decode cX12_loadsIn 14 = .ok (.invokevirtual 330, 3) := by decide +kernel
theorem dX12_loadsIn_17 : decode cX12_loadsIn 17 = .ok (.pop, 1) := by decide +kernel
theorem dX12_loadsIn_18 : decode cX12_loadsIn 18 = .ok (.aload_n 0, 1) := by decide +kernel
theorem dX12_loadsIn_19 : decode cX12_loadsIn 19 = .ok (.getfield 39, 3) := by decide +kernel
theorem dX12_loadsIn_22 : decode cX12_loadsIn 22 = .ok (.bipush 28, 2) := by decide +kernel
theorem dX12_loadsIn_24 : decode cX12_loadsIn 24 = .ok (.iaload, 1) := by decide +kernel
theorem dX12_loadsIn_25 : decode cX12_loadsIn 25 = .ok (.iload_n 2, 1) := by decide +kernel
theorem dX12_loadsIn_26 : decode cX12_loadsIn 26 = .ok (.isub, 1) := by decide +kernel
theorem dX12_loadsIn_27 : decode cX12_loadsIn 27 = .ok (.ireturn, 1) := by decide +kernel
theorem dX12_thorns_0 : decode cX12_thorns 0 = .ok (.aload_n 0, 1) := by decide +kernel
theorem dX12_thorns_1 : decode cX12_thorns 1 = .ok (.iconst 0, 1) := by decide +kernel
theorem dX12_thorns_2 : decode cX12_thorns 2 = .ok (.putfield 97, 3) := by decide +kernel
theorem dX12_thorns_5 : decode cX12_thorns 5 = .ok (.iload_n 1, 1) := by decide +kernel
theorem dX12_thorns_6 : decode cX12_thorns 6 = .ok (.i2l, 1) := by decide +kernel
theorem dX12_thorns_7 : decode cX12_thorns 7 = .ok (.lconst 1, 1) := by decide +kernel
theorem dX12_thorns_8 : decode cX12_thorns 8 = .ok (.ldc2_w 381, 3) := by decide +kernel
theorem dX12_thorns_11 : decode cX12_thorns 11 = .ok (.invokestatic 107, 3) := by decide +kernel
theorem dX12_thorns_14 : decode cX12_thorns 14 = .ok (.ifCond .ne 5, 3) := by decide +kernel
theorem dX12_thorns_17 : decode cX12_thorns 17 = .ok (.iconst (-1), 1) := by decide +kernel
theorem dX12_thorns_18 : decode cX12_thorns 18 = .ok (.ireturn, 1) := by decide +kernel
theorem dX12_thorns_19 : decode cX12_thorns 19 = .ok (.bipush (-2), 2) := by decide +kernel
theorem dX12_thorns_21 : decode cX12_thorns 21 = .ok (.istore_n 2, 1) := by decide +kernel
theorem dX12_thorns_22 : decode cX12_thorns 22 = .ok (.ldc_w 380, 3) := by decide +kernel
theorem dX12_thorns_25 : decode cX12_thorns 25 = .ok (.istore_n 3, 1) := by decide +kernel
theorem dX12_thorns_26 : decode cX12_thorns 26 = .ok (.iconst 0, 1) := by decide +kernel
theorem dX12_thorns_27 : decode cX12_thorns 27 = .ok (.istore 4, 2) := by decide +kernel
theorem dX12_thorns_29 : decode cX12_thorns 29 = .ok (.iload 4, 2) := by decide +kernel
theorem dX12_thorns_31 : decode cX12_thorns 31 = .ok (.aload_n 0, 1) := by decide +kernel
theorem dX12_thorns_32 : decode cX12_thorns 32 = .ok (.getfield 13, 3) := by decide +kernel
theorem dX12_thorns_35 : decode cX12_thorns 35 = .ok (.if_icmp .ge 62, 3) := by decide +kernel
theorem dX12_thorns_38 : decode cX12_thorns 38 = .ok (.aload_n 0, 1) := by decide +kernel
theorem dX12_thorns_39 : decode cX12_thorns 39 = .ok (.aload_n 0, 1) := by decide +kernel
theorem dX12_thorns_40 : decode cX12_thorns 40 = .ok (.getfield 36, 3) := by decide +kernel
theorem dX12_thorns_43 : decode cX12_thorns 43 = .ok (.iload 4, 2) := by decide +kernel
theorem dX12_thorns_45 : decode cX12_thorns 45 = .ok (.invokevirtual 247, 3) := by decide +kernel
theorem dX12_thorns_48 : decode cX12_thorns 48 = .ok (.ifCond .ne 43, 3) := by decide +kernel
theorem dX12_thorns_51 : decode cX12_thorns 51 = .ok (.aload_n 0, 1) := by decide +kernel
theorem dX12_thorns_52 : decode cX12_thorns 52 = .ok (.invokevirtual 356, 3) := by decide +kernel
theorem dX12_thorns_55 : decode cX12_thorns 55 = .ok (.aload_n 0, 1) := by decide +kernel
theorem dX12_thorns_56 : decode cX12_thorns 56 = .ok (.getfield 39, 3) := by decide +kernel
theorem dX12_thorns_59 : decode cX12_thorns 59 = .ok (.iload 4, 2) := by decide +kernel
theorem dX12_thorns_61 : decode cX12_thorns 61 = .ok (.bipush 9, 2) := by decide +kernel
theorem dX12_thorns_63 : decode cX12_thorns 63 = .ok (.iastore, 1) := by decide +kernel
theorem dX12_thorns_64 : decode cX12_thorns 64 = .ok (.aload_n 0, 1) := by decide +kernel
theorem dX12_thorns_65 : decode cX12_thorns 65 = .ok (.iload_n 1, 1) := by decide +kernel
theorem dX12_thorns_66 : decode cX12_thorns 66 = .ok (.invokevirtual 383, 3) := by decide +kernel
theorem dX12_thorns_69 : decode cX12_thorns 69 = .ok (.istore 5, 2) := by decide +kernel
theorem dX12_thorns_71 : decode cX12_thorns 71 = .ok (.iload 5, 2) := by decide +kernel
theorem dX12_thorns_73 : decode cX12_thorns 73 = .ok (.iload_n 3, 1) := by decide +kernel
theorem dX12_thorns_74 : decode cX12_thorns 74 = .ok (.if_icmp .ge 8, 3) := by decide +kernel
theorem dX12_thorns_77 : decode cX12_thorns 77 = .ok (.iload 4, 2) := by decide +kernel
theorem dX12_thorns_79 : decode cX12_thorns 79 = .ok (.goto 4, 3) := by decide +kernel
theorem dX12_thorns_82 : decode cX12_thorns 82 = .ok (.iload_n 2, 1) := by decide +kernel
theorem dX12_thorns_83 : decode cX12_thorns 83 = .ok (.istore_n 2, 1) := by decide +kernel
theorem dX12_thorns_84 : decode cX12_thorns 84 = .ok (.iload_n 3, 1) := by decide +kernel
theorem dX12_thorns_85 : decode cX12_thorns 85 = .ok (.iload 5, 2) := by decide +kernel
theorem dX12_thorns_87 : decode cX12_thorns 87 = .ok (.invokestatic 127, 3) := by decide +kernel
theorem dX12_thorns_90 : decode cX12_thorns 90 = .ok (.istore_n 3, 1) := by decide +kernel
theorem dX12_thorns_91 : decode cX12_thorns 91 = .ok (.iinc 4 1, 3) := by decide +kernel
theorem dX12_thorns_94 : decode cX12_thorns 94 = .ok (.goto (-65), 3) := by decide +kernel
theorem dX12_thorns_97 : decode cX12_thorns 97 = .ok (.iload_n 2, 1) := by decide +kernel
theorem dX12_thorns_98 : decode cX12_thorns 98 = .ok (.ifCond .ge 6, 3) := by decide +kernel
theorem dX12_thorns_101 : decode cX12_thorns 101 = .ok (.bipush (-2), 2) := by decide +kernel
theorem dX12_thorns_103 : decode cX12_thorns 103 = .ok (.ireturn, 1) := by decide +kernel
theorem dX12_thorns_104 : decode cX12_thorns 104 = .ok (.aload_n 0, 1) := by decide +kernel
theorem dX12_thorns_105 : decode cX12_thorns 105 = .ok (.invokevirtual 356, 3) := by decide +kernel
theorem dX12_thorns_108 : decode cX12_thorns 108 = .ok (.aload_n 0, 1) := by decide +kernel
theorem dX12_thorns_109 : decode cX12_thorns 109 = .ok (.iload_n 1, 1) := by decide +kernel
theorem dX12_thorns_110 : decode cX12_thorns 110 = .ok (.invokevirtual 383, 3) := by decide +kernel
theorem dX12_thorns_113 : decode cX12_thorns 113 = .ok (.istore 4, 2) := by decide +kernel
theorem dX12_thorns_115 : decode cX12_thorns 115 = .ok (.aload_n 0, 1) := by decide +kernel
theorem dX12_thorns_116 : decode cX12_thorns 116 = .ok (.iconst 0, 1) := by decide +kernel
theorem dX12_thorns_117 : decode cX12_thorns 117 = .ok (.putfield 104, 3) := by decide +kernel
theorem dX12_thorns_120 : decode cX12_thorns 120 = .ok (.aload_n 0, 1) := by decide +kernel
theorem dX12_thorns_121 : decode cX12_thorns 121 = .ok (.iload_n 3, 1) := by decide +kernel
theorem dX12_thorns_122 : decode cX12_thorns 122 = .ok (.i2l, 1) := by decide +kernel
theorem dX12_thorns_123 : decode cX12_thorns 123 = .ok (.invokevirtual 333, 3) := by decide +kernel
theorem dX12_thorns_126 : decode cX12_thorns 126 = .ok (.aload_n 0, 1) := by decide +kernel
theorem dX12_thorns_127 : decode cX12_thorns 127 = .ok (.iload 4, 2) := by decide +kernel
theorem dX12_thorns_129 : decode cX12_thorns 129 = .ok (.i2l, 1) := by decide +kernel
theorem dX12_thorns_130 : decode cX12_thorns 130 = .ok (.invokevirtual 333, 3) := by decide +kernel
theorem dX12_thorns_133 : decode cX12_thorns 133 = .ok (.iload_n 2, 1) := by decide +kernel
theorem dX12_thorns_134 : decode cX12_thorns 134 = .ok (.ireturn, 1) := by decide +kernel
theorem dX12_walls_0 : decode cX12_walls 0 = .ok (.aload_n 0, 1) := by decide +kernel
theorem dX12_walls_1 : decode cX12_walls 1 = .ok (.iconst 0, 1) := by decide +kernel
theorem dX12_walls_2 : decode cX12_walls 2 = .ok (.putfield 97, 3) := by decide +kernel
theorem dX12_walls_5 : decode cX12_walls 5 = .ok (.iconst 1, 1) := by decide +kernel
theorem dX12_walls_6 : decode cX12_walls 6 = .ok (.aload_n 0, 1) := by decide +kernel
theorem dX12_walls_7 : decode cX12_walls 7 = .ok (.getfield 13, 3) := by decide +kernel
theorem dX12_walls_10 : decode cX12_walls 10 = .ok (.ishl, 1) := by decide +kernel
theorem dX12_walls_11 : decode cX12_walls 11 = .ok (.iconst 1, 1) := by decide +kernel
theorem dX12_walls_12 : decode cX12_walls 12 = .ok (.isub, 1) := by decide +kernel
theorem dX12_walls_13 : decode cX12_walls 13 = .ok (.aload_n 0, 1) := by decide +kernel
theorem dX12_walls_14 : decode cX12_walls 14 = .ok (.getfield 36, 3) := by decide +kernel
theorem dX12_walls_17 : decode cX12_walls 17 = .ok (.bipush 24, 2) := by decide +kernel
theorem dX12_walls_19 : decode cX12_walls 19 = .ok (.iaload, 1) := by decide +kernel
theorem dX12_walls_20 : decode cX12_walls 20 = .ok (.iconst (-1), 1) := by decide +kernel
theorem dX12_walls_21 : decode cX12_walls 21 = .ok (.ixor, 1) := by decide +kernel
theorem dX12_walls_22 : decode cX12_walls 22 = .ok (.iand, 1) := by decide +kernel
theorem dX12_walls_23 : decode cX12_walls 23 = .ok (.istore_n 1, 1) := by decide +kernel
theorem dX12_walls_24 : decode cX12_walls 24 = .ok (.iconst 0, 1) := by decide +kernel
theorem dX12_walls_25 : decode cX12_walls 25 = .ok (.istore_n 2, 1) := by decide +kernel
theorem dX12_walls_26 : decode cX12_walls 26 = .ok (.iconst 0, 1) := by decide +kernel
theorem dX12_walls_27 : decode cX12_walls 27 = .ok (.istore_n 3, 1) := by decide +kernel
theorem dX12_walls_28 : decode cX12_walls 28 = .ok (.iload_n 3, 1) := by decide +kernel
theorem dX12_walls_29 : decode cX12_walls 29 = .ok (.aload_n 0, 1) := by decide +kernel
theorem dX12_walls_30 : decode cX12_walls 30 = .ok (.getfield 111, 3) := by decide +kernel
theorem dX12_walls_33 : decode cX12_walls 33 = .ok (.if_icmp .ge 29, 3) := by decide +kernel
theorem dX12_walls_36 : decode cX12_walls 36 = .ok (.iload_n 2, 1) := by decide +kernel
theorem dX12_walls_37 : decode cX12_walls 37 = .ok (.aload_n 0, 1) := by decide +kernel
theorem dX12_walls_38 : decode cX12_walls 38 = .ok (.getfield 24, 3) := by decide +kernel
theorem dX12_walls_41 : decode cX12_walls 41 = .ok (.iload_n 3, 1) := by decide +kernel
theorem dX12_walls_42 : decode cX12_walls 42 = .ok (.iaload, 1) := by decide +kernel
theorem dX12_walls_43 : decode cX12_walls 43 = .ok (.iconst 3, 1) := by decide +kernel
theorem dX12_walls_44 : decode cX12_walls 44 = .ok (.if_icmp .ge 9, 3) := by decide +kernel
theorem dX12_walls_47 : decode cX12_walls 47 = .ok (.iconst 1, 1) := by decide +kernel
theorem dX12_walls_48 : decode cX12_walls 48 = .ok (.iload_n 3, 1) := by decide +kernel
theorem dX12_walls_49 : decode cX12_walls 49 = .ok (.ishl, 1) := by decide +kernel
theorem dX12_walls_50 : decode cX12_walls 50 = .ok (.goto 4, 3) := by decide +kernel
theorem dX12_walls_53 : decode cX12_walls 53 = .ok (.iconst 0, 1) := by decide +kernel
theorem dX12_walls_54 : decode cX12_walls 54 = .ok (.ior, 1) := by decide +kernel
theorem dX12_walls_55 : decode cX12_walls 55 = .ok (.istore_n 2, 1) := by decide +kernel
theorem dX12_walls_56 : decode cX12_walls 56 = .ok (.iinc 3 1, 3) := by decide +kernel
theorem dX12_walls_59 : decode cX12_walls 59 = .ok (.goto (-31), 3) := by decide +kernel
theorem dX12_walls_62 : decode cX12_walls 62 = .ok (.iload_n 1, 1) := by decide +kernel
theorem dX12_walls_63 : decode cX12_walls 63 = .ok (.istore_n 3, 1) := by decide +kernel
theorem dX12_walls_64 : decode cX12_walls 64 = .ok (.iload_n 1, 1) := by decide +kernel
theorem dX12_walls_65 : decode cX12_walls 65 = .ok (.istore 4, 2) := by decide +kernel
theorem dX12_walls_67 : decode cX12_walls 67 = .ok (.iload 4, 2) := by decide +kernel
theorem dX12_walls_69 : decode cX12_walls 69 = .ok (.ifCond .lt 113, 3) := by decide +kernel
theorem dX12_walls_72 : decode cX12_walls 72 = .ok (.iload 4, 2) := by decide +kernel
theorem dX12_walls_74 : decode cX12_walls 74 = .ok (.iload_n 1, 1) := by decide +kernel
theorem dX12_walls_75 : decode cX12_walls 75 = .ok (.iconst (-1), 1) := by decide +kernel
theorem dX12_walls_76 : decode cX12_walls 76 = .ok (.ixor, 1) := by decide +kernel
theorem dX12_walls_77 : decode cX12_walls 77 = .ok (.iand, 1) := by decide +kernel
theorem dX12_walls_78 : decode cX12_walls 78 = .ok (.ifCond .ne 98, 3) := by decide +kernel
theorem dX12_walls_81 : decode cX12_walls 81 = .ok (.iload 4, 2) := by decide +kernel
theorem dX12_walls_83 : decode cX12_walls 83 = .ok (.invokestatic 305, 3) := by decide +kernel
theorem dX12_walls_86 : decode cX12_walls 86 = .ok (.iload_n 3, 1) := by decide +kernel
theorem dX12_walls_87 : decode cX12_walls 87 = .ok (.invokestatic 305, 3) := by decide +kernel
theorem dX12_walls_90 : decode cX12_walls 90 = .ok (.if_icmp .gt 86, 3) := by decide +kernel
theorem dX12_walls_93 : decode cX12_walls 93 = .ok (.aload_n 0, 1) := by decide +kernel
theorem dX12_walls_94 : decode cX12_walls 94 = .ok (.invokevirtual 356, 3) := by decide +kernel
theorem dX12_walls_97 : decode cX12_walls 97 = .ok (.iconst 0, 1) := by decide +kernel
theorem dX12_walls_98 : decode cX12_walls 98 = .ok (.istore 5, 2) := by decide +kernel
theorem dX12_walls_100 : decode cX12_walls 100 = .ok (.iload 5, 2) := by decide +kernel
theorem dX12_walls_102 : decode cX12_walls 102 = .ok (.aload_n 0, 1) := by decide +kernel
theorem dX12_walls_103 : decode cX12_walls 103 = .ok (.getfield 13, 3) := by decide +kernel
theorem dX12_walls_106 : decode cX12_walls 106 = .ok (.if_icmp .ge 37, 3) := by decide +kernel
theorem dX12_walls_109 : decode cX12_walls 109 = .ok (.aload_n 0, 1) := by decide +kernel
theorem dX12_walls_110 : decode cX12_walls 110 = .ok (.getfield 39, 3) := by decide +kernel
theorem dX12_walls_113 : decode cX12_walls 113 = .ok (.iload 5, 2) := by decide +kernel
theorem dX12_walls_115 : decode cX12_walls 115 = .ok (.iload 4, 2) := by decide +kernel
theorem dX12_walls_117 : decode cX12_walls 117 = .ok (.iload 5, 2) := by decide +kernel
theorem dX12_walls_119 : decode cX12_walls 119 = .ok (.invokestatic 114, 3) := by decide +kernel
theorem dX12_walls_122 : decode cX12_walls 122 = .ok (.ifCond .eq 7, 3) := by decide +kernel
theorem dX12_walls_125 : decode cX12_walls 125 = .ok (.iconst 0, 1) := by decide +kernel
theorem dX12_walls_126 : decode cX12_walls 126 = .ok (.goto 10, 3) := by decide +kernel
theorem dX12_walls_129 : decode cX12_walls 129 = .ok (.aload_n 0, 1) := by decide +kernel
theorem dX12_walls_130 : decode cX12_walls 130 = .ok (.getfield 39, 3) := by decide +kernel
theorem dX12_walls_133 : decode cX12_walls 133 = .ok (.iload 5, 2) := by decide +kernel
theorem dX12_walls_135 : decode cX12_walls 135 = .ok (.iaload, 1) := by decide +kernel
theorem dX12_walls_136 : decode cX12_walls 136 = .ok (.iastore, 1) := by decide +kernel
theorem dX12_walls_137 : decode cX12_walls 137 = .ok (.iinc 5 1, 3) := by decide +kernel
theorem dX12_walls_140 : decode cX12_walls 140 = .ok (.goto (-40), 3) := by decide +kernel
theorem dX12_walls_143 : decode cX12_walls 143 = .ok (.aload_n 0, 1) := by decide +kernel
theorem dX12_walls_144 : decode cX12_walls 144 = .ok (.getfield 39, 3) := by decide +kernel
theorem dX12_walls_147 : decode cX12_walls 147 = .ok (.bipush 24, 2) := by decide +kernel
theorem dX12_walls_149 : decode cX12_walls 149 = .ok (.dup2, 1) := by decide +kernel
theorem dX12_walls_150 : decode cX12_walls 150 = .ok (.iaload, 1) := by decide +kernel
theorem dX12_walls_151 : decode cX12_walls 151 = .ok (.iload 4, 2) := by decide +kernel
theorem dX12_walls_153 : decode cX12_walls 153 = .ok (.ior, 1) := by decide +kernel
theorem dX12_walls_154 : decode cX12_walls 154 = .ok (.iastore, 1) := by decide +kernel
theorem dX12_walls_155 : decode cX12_walls 155 = .ok (.aload_n 0, 1) := by decide +kernel
theorem dX12_walls_156 : decode cX12_walls 156 = .ok (.aload_n 0, 1) := by decide +kernel
theorem dX12_walls_157 : decode cX12_walls 157 = .ok (.getfield 39, 3) := by decide +kernel
theorem dX12_walls_160 : decode cX12_walls 160 = .ok (.iconst 0, 1) := by decide +kernel
theorem dX12_walls_161 : decode cX12_walls 161 = .ok (.invokevirtual 295, 3) := by decide +kernel
theorem dX12_walls_164 : decode cX12_walls 164 = .ok (.iload_n 2, 1) := by decide +kernel
theorem dX12_walls_165 : decode cX12_walls 165 = .ok (.iand, 1) := by decide +kernel
theorem dX12_walls_166 : decode cX12_walls 166 = .ok (.ifCond .ne 8, 3) := by decide +kernel
theorem dX12_walls_169 : decode cX12_walls 169 = .ok (.iload 4, 2) := by decide +kernel
theorem dX12_walls_171 : decode cX12_walls 171 = .ok (.goto 4, 3) := by decide +kernel
theorem dX12_walls_174 : decode cX12_walls 174 = .ok (.iload_n 3, 1) := by decide +kernel
theorem dX12_walls_175 : decode cX12_walls 175 = .ok (.istore_n 3, 1) := by decide +kernel
theorem dX12_walls_176 : decode cX12_walls 176 = .ok (.iinc 4 (-1), 3) := by decide +kernel
theorem dX12_walls_179 : decode cX12_walls 179 = .ok (.goto (-112), 3) := by decide +kernel
theorem dX12_walls_182 : decode cX12_walls 182 = .ok (.aload_n 0, 1) := by decide +kernel
theorem dX12_walls_183 : decode cX12_walls 183 = .ok (.iconst 0, 1) := by decide +kernel
theorem dX12_walls_184 : decode cX12_walls 184 = .ok (.putfield 104, 3) := by decide +kernel
theorem dX12_walls_187 : decode cX12_walls 187 = .ok (.aload_n 0, 1) := by decide +kernel
theorem dX12_walls_188 : decode cX12_walls 188 = .ok (.iload_n 3, 1) := by decide +kernel
theorem dX12_walls_189 : decode cX12_walls 189 = .ok (.i2l, 1) := by decide +kernel
theorem dX12_walls_190 : decode cX12_walls 190 = .ok (.invokevirtual 333, 3) := by decide +kernel
theorem dX12_walls_193 : decode cX12_walls 193 = .ok (.iload_n 3, 1) := by decide +kernel
theorem dX12_walls_194 : decode cX12_walls 194 = .ok (.invokestatic 305, 3) := by decide +kernel
theorem dX12_walls_197 : decode cX12_walls 197 = .ok (.ireturn, 1) := by decide +kernel
theorem dX12_isNear_0 : decode cX12_isNear 0 = .ok (.iconst 1, 1) := by decide +kernel
theorem dX12_isNear_1 : decode cX12_isNear 1 = .ok (.istore_n 3, 1) := by decide +kernel
theorem dX12_isNear_2 : decode cX12_isNear 2 = .ok (.iconst 0, 1) := by decide +kernel
theorem dX12_isNear_3 : decode cX12_isNear 3 = .ok (.istore 4, 2) := by decide +kernel
theorem dX12_isNear_5 : decode cX12_isNear 5 = .ok (.iload 4, 2) := by decide +kernel
theorem dX12_isNear_7 : decode cX12_isNear 7 = .ok (.aload_n 0, 1) := by decide +kernel
theorem dX12_isNear_8 : decode cX12_isNear 8 = .ok (.getfield 13, 3) := by decide +kernel
theorem dX12_isNear_11 : decode cX12_isNear 11 = .ok (.if_icmp .ge 78, 3) := by decide +kernel
theorem dX12_isNear_14 : decode cX12_isNear 14 = .ok (.iconst 0, 1) := by decide +kernel
theorem dX12_isNear_15 : decode cX12_isNear 15 = .ok (.istore 5, 2) := by decide +kernel
theorem dX12_isNear_17 : decode cX12_isNear 17 = .ok (.iconst 0, 1) := by decide +kernel
theorem dX12_isNear_18 : decode cX12_isNear 18 = .ok (.istore 6, 2) := by decide +kernel
theorem dX12_isNear_20 : decode cX12_isNear 20 = .ok (.iload 6, 2) := by decide +kernel
theorem dX12_isNear_22 : decode cX12_isNear 22 = .ok (.aload_n 0, 1) := by decide +kernel
theorem dX12_isNear_23 : decode cX12_isNear 23 = .ok (.getfield 13, 3) := by decide +kernel
theorem dX12_isNear_26 : decode cX12_isNear 26 = .ok (.if_icmp .ge 42, 3) := by decide +kernel
theorem dX12_isNear_29 : decode cX12_isNear 29 = .ok (.iload 5, 2) := by decide +kernel
theorem dX12_isNear_31 : decode cX12_isNear 31 = .ok (.ifCond .ne 24, 3) := by decide +kernel
theorem dX12_isNear_34 : decode cX12_isNear 34 = .ok (.iload_n 1, 1) := by decide +kernel
theorem dX12_isNear_35 : decode cX12_isNear 35 = .ok (.iload 6, 2) := by decide +kernel
theorem dX12_isNear_37 : decode cX12_isNear 37 = .ok (.invokestatic 114, 3) := by decide +kernel
theorem dX12_isNear_40 : decode cX12_isNear 40 = .ok (.ifCond .eq 19, 3) := by decide +kernel
theorem dX12_isNear_43 : decode cX12_isNear 43 = .ok (.iload 4, 2) := by decide +kernel
theorem dX12_isNear_45 : decode cX12_isNear 45 = .ok (.iload 6, 2) := by decide +kernel
theorem dX12_isNear_47 : decode cX12_isNear 47 = .ok (.isub, 1) := by decide +kernel
theorem dX12_isNear_48 : decode cX12_isNear 48 = .ok (.invokestatic 386, 3) := by decide +kernel
theorem dX12_isNear_51 : decode cX12_isNear 51 = .ok (.iload_n 2, 1) := by decide +kernel
theorem dX12_isNear_52 : decode cX12_isNear 52 = .ok (.if_icmp .gt 7, 3) := by decide +kernel
theorem dX12_isNear_55 : decode cX12_isNear 55 = .ok (.iconst 1, 1) := by decide +kernel
theorem dX12_isNear_56 : decode cX12_isNear 56 = .ok (.goto 4, 3) := by decide +kernel
theorem dX12_isNear_59 : decode cX12_isNear 59 = .ok (.iconst 0, 1) := by decide +kernel
theorem dX12_isNear_60 : decode cX12_isNear 60 = .ok (.istore 5, 2) := by decide +kernel
theorem dX12_isNear_62 : decode cX12_isNear 62 = .ok (.iinc 6 1, 3) := by decide +kernel
theorem dX12_isNear_65 : decode cX12_isNear 65 = .ok (.goto (-45), 3) := by decide +kernel
theorem dX12_isNear_68 : decode cX12_isNear 68 = .ok (.iload_n 3, 1) := by decide +kernel
theorem dX12_isNear_69 : decode cX12_isNear 69 = .ok (.ifCond .eq 12, 3) := by decide +kernel
theorem dX12_isNear_72 : decode cX12_isNear 72 = .ok (.iload 5, 2) := by decide +kernel
theorem dX12_isNear_74 : decode cX12_isNear 74 = .ok (.ifCond .eq 7, 3) := by decide +kernel
theorem dX12_isNear_77 : decode cX12_isNear 77 = .ok (.iconst 1, 1) := by decide +kernel
theorem dX12_isNear_78 : decode cX12_isNear 78 = .ok (.goto 4, 3) := by decide +kernel
theorem dX12_isNear_81 : decode cX12_isNear 81 = .ok (.iconst 0, 1) := by decide +kernel
theorem dX12_isNear_82 : decode cX12_isNear 82 = .ok (.istore_n 3, 1) := by decide +kernel
theorem dX12_isNear_83 : decode cX12_isNear 83 = .ok (.iinc 4 1, 3) := by decide +kernel
theorem dX12_isNear_86 : decode cX12_isNear 86 = .ok (.goto (-81), 3) := by decide +kernel
theorem dX12_isNear_89 : decode cX12_isNear 89 = .ok (.iload_n 3, 1) := by decide +kernel
theorem dX12_isNear_90 : decode cX12_isNear 90 = .ok (.ireturn, 1) := by decide +kernel
theorem dX12_posts_0 : decode cX12_posts 0 = .ok (.aload_n 0, 1) := by decide +kernel
theorem dX12_posts_1 : decode cX12_posts 1 = .ok (.iconst 0, 1) := by decide +kernel
theorem dX12_posts_2 : decode cX12_posts 2 = .ok (.putfield 97, 3) := by decide +kernel
theorem dX12_posts_5 : decode cX12_posts 5 = .ok (.iload_n 1, 1) := by decide +kernel
theorem dX12_posts_6 : decode cX12_posts 6 = .ok (.i2l, 1) := by decide +kernel
theorem dX12_posts_7 : decode cX12_posts 7 = .ok (.lconst 0, 1) := by decide +kernel
theorem dX12_posts_8 : decode cX12_posts 8 = .ok (.ldc2_w 389, 3) := by decide +kernel
theorem dX12_posts_11 : decode cX12_posts 11 = .ok (.invokestatic 107, 3) := by decide +kernel
theorem dX12_posts_14 : decode cX12_posts 14 = .ok (.ifCond .ne 5, 3) := by decide +kernel
theorem dX12_posts_17 : decode cX12_posts 17 = .ok (.iconst (-1), 1) := by decide +kernel
theorem dX12_posts_18 : decode cX12_posts 18 = .ok (.ireturn, 1) := by decide +kernel
theorem dX12_posts_19 : decode cX12_posts 19 = .ok (.iconst 1, 1) := by decide +kernel
theorem dX12_posts_20 : decode cX12_posts 20 = .ok (.aload_n 0, 1) := by decide +kernel
theorem dX12_posts_21 : decode cX12_posts 21 = .ok (.getfield 13, 3) := by decide +kernel
theorem dX12_posts_24 : decode cX12_posts 24 = .ok (.ishl, 1) := by decide +kernel
theorem dX12_posts_25 : decode cX12_posts 25 = .ok (.iconst 1, 1) := by decide +kernel
theorem dX12_posts_26 : decode cX12_posts 26 = .ok (.isub, 1) := by decide +kernel
theorem dX12_posts_27 : decode cX12_posts 27 = .ok (.istore_n 2, 1) := by decide +kernel
theorem dX12_posts_28 : decode cX12_posts 28 = .ok (.iload_n 2, 1) := by decide +kernel
theorem dX12_posts_29 : decode cX12_posts 29 = .ok (.istore_n 3, 1) := by decide +kernel
theorem dX12_posts_30 : decode cX12_posts 30 = .ok (.iload_n 3, 1) := by decide +kernel
theorem dX12_posts_31 : decode cX12_posts 31 = .ok (.ifCond .lt 35, 3) := by decide +kernel
theorem dX12_posts_34 : decode cX12_posts 34 = .ok (.iload_n 3, 1) := by decide +kernel
theorem dX12_posts_35 : decode cX12_posts 35 = .ok (.invokestatic 305, 3) := by decide +kernel
theorem dX12_posts_38 : decode cX12_posts 38 = .ok (.iload_n 2, 1) := by decide +kernel
theorem dX12_posts_39 : decode cX12_posts 39 = .ok (.invokestatic 305, 3) := by decide +kernel
theorem dX12_posts_42 : decode cX12_posts 42 = .ok (.if_icmp .gt 16, 3) := by decide +kernel
theorem dX12_posts_45 : decode cX12_posts 45 = .ok (.aload_n 0, 1) := by decide +kernel
theorem dX12_posts_46 : decode cX12_posts 46 = .ok (.iload_n 3, 1) := by decide +kernel
theorem dX12_posts_47 : decode cX12_posts 47 = .ok (.iload_n 1, 1) := by decide +kernel
theorem dX12_posts_48 : decode cX12_posts 48 = .ok (.invokevirtual 391, 3) := by decide +kernel
theorem dX12_posts_51 : decode cX12_posts 51 = .ok (.ifCond .eq 7, 3) := by decide +kernel
theorem dX12_posts_54 : decode cX12_posts 54 = .ok (.iload_n 3, 1) := by decide +kernel
theorem dX12_posts_55 : decode cX12_posts 55 = .ok (.goto 4, 3) := by decide +kernel
theorem dX12_posts_58 : decode cX12_posts 58 = .ok (.iload_n 2, 1) := by decide +kernel
theorem dX12_posts_59 : decode cX12_posts 59 = .ok (.istore_n 2, 1) := by decide +kernel
theorem dX12_posts_60 : decode cX12_posts 60 = .ok (.iinc 3 (-1), 3) := by decide +kernel
theorem dX12_posts_63 : decode cX12_posts 63 = .ok (.goto (-33), 3) := by decide +kernel
theorem dX12_posts_66 : decode cX12_posts 66 = .ok (.aload_n 0, 1) := by decide +kernel
theorem dX12_posts_67 : decode cX12_posts 67 = .ok (.iconst 0, 1) := by decide +kernel
theorem dX12_posts_68 : decode cX12_posts 68 = .ok (.putfield 104, 3) := by decide +kernel
theorem dX12_posts_71 : decode cX12_posts 71 = .ok (.aload_n 0, 1) := by decide +kernel
theorem dX12_posts_72 : decode cX12_posts 72 = .ok (.iload_n 2, 1) := by decide +kernel
theorem dX12_posts_73 : decode cX12_posts 73 = .ok (.i2l, 1) := by decide +kernel
theorem dX12_posts_74 : decode cX12_posts 74 = .ok (.invokevirtual 333, 3) := by decide +kernel
theorem dX12_posts_77 : decode cX12_posts 77 = .ok (.iload_n 2, 1) := by decide +kernel
theorem dX12_posts_78 : decode cX12_posts 78 = .ok (.invokestatic 305, 3) := by decide +kernel
theorem dX12_posts_81 : decode cX12_posts 81 = .ok (.ireturn, 1) := by decide +kernel
theorem dX12_rounds_0 : decode cX12_rounds 0 = .ok (.aload_n 0, 1) := by decide +kernel
theorem dX12_rounds_1 : decode cX12_rounds 1 = .ok (.iconst 0, 1) := by decide +kernel
theorem dX12_rounds_2 : decode cX12_rounds 2 = .ok (.putfield 97, 3) := by decide +kernel
theorem dX12_rounds_5 : decode cX12_rounds 5 = .ok (.iload_n 1, 1) := by decide +kernel
theorem dX12_rounds_6 : decode cX12_rounds 6 = .ok (.i2l, 1) := by decide +kernel
theorem dX12_rounds_7 : decode cX12_rounds 7 = .ok (.lconst 1, 1) := by decide +kernel
theorem dX12_rounds_8 : decode cX12_rounds 8 = .ok (.ldc2_w 303, 3) := by decide +kernel
theorem dX12_rounds_11 : decode cX12_rounds 11 = .ok (.invokestatic 107, 3) := by decide +kernel
theorem dX12_rounds_14 : decode cX12_rounds 14 = .ok (.ifCond .eq 15, 3) := by decide +kernel
theorem dX12_rounds_17 : decode cX12_rounds 17 = .ok (.iload_n 2, 1) := by decide +kernel
theorem dX12_rounds_18 : decode cX12_rounds 18 = .ok (.i2l, 1) := by decide +kernel
theorem dX12_rounds_19 : decode cX12_rounds 19 = .ok (.lconst 0, 1) := by decide +kernel
theorem dX12_rounds_20 : decode cX12_rounds 20 = .ok (.ldc2_w 328, 3) := by decide +kernel
theorem dX12_rounds_23 : decode cX12_rounds 23 = .ok (.invokestatic 107, 3) := by decide +kernel
theorem dX12_rounds_26 : decode cX12_rounds 26 = .ok (.ifCond .ne 5, 3) := by decide +kernel
theorem dX12_rounds_29 : decode cX12_rounds 29 = .ok (.iconst (-1), 1) := by decide +kernel
theorem dX12_rounds_30 : decode cX12_rounds 30 = .ok (.ireturn, 1) := by decide +kernel
theorem dX12_rounds_31 : decode cX12_rounds 31 = .ok (.iconst 1, 1) := by decide +kernel
theorem dX12_rounds_32 : decode cX12_rounds 32 = .ok (.aload_n 0, 1) := by decide +kernel
theorem dX12_rounds_33 : decode cX12_rounds 33 = .ok (.getfield 13, 3) := by decide +kernel
theorem dX12_rounds_36 : decode cX12_rounds 36 = .ok (.ishl, 1) := by decide +kernel
theorem dX12_rounds_37 : decode cX12_rounds 37 = .ok (.iconst 1, 1) := by decide +kernel
theorem dX12_rounds_38 : decode cX12_rounds 38 = .ok (.isub, 1) := by decide +kernel
theorem dX12_rounds_39 : decode cX12_rounds 39 = .ok (.istore_n 3, 1) := by decide +kernel
theorem dX12_rounds_40 : decode cX12_rounds 40 = .ok (.iconst 2, 1) := by decide +kernel
theorem dX12_rounds_41 : decode cX12_rounds 41 = .ok (.aload_n 0, 1) := by decide +kernel
theorem dX12_rounds_42 : decode cX12_rounds 42 = .ok (.getfield 13, 3) := by decide +kernel
theorem dX12_rounds_45 : decode cX12_rounds 45 = .ok (.iconst 1, 1) := by decide +kernel
theorem dX12_rounds_46 : decode cX12_rounds 46 = .ok (.isub, 1) := by decide +kernel
theorem dX12_rounds_47 : decode cX12_rounds 47 = .ok (.imul, 1) := by decide +kernel
theorem dX12_rounds_48 : decode cX12_rounds 48 = .ok (.istore 4, 2) := by decide +kernel
theorem dX12_rounds_50 : decode cX12_rounds 50 = .ok (.iconst 0, 1) := by decide +kernel
theorem dX12_rounds_51 : decode cX12_rounds 51 = .ok (.istore 5, 2) := by decide +kernel
theorem dX12_rounds_53 : decode cX12_rounds 53 = .ok (.iload 5, 2) := by decide +kernel
theorem dX12_rounds_55 : decode cX12_rounds 55 = .ok (.iload_n 1, 1) := by decide +kernel
theorem dX12_rounds_56 : decode cX12_rounds 56 = .ok (.if_icmp .ge 51, 3) := by decide +kernel
theorem dX12_rounds_59 : decode cX12_rounds 59 = .ok (.iload 4, 2) := by decide +kernel
theorem dX12_rounds_61 : decode cX12_rounds 61 = .ok (.ifCond .ne 7, 3) := by decide +kernel
theorem dX12_rounds_64 : decode cX12_rounds 64 = .ok (.iconst 0, 1) := by decide +kernel
theorem dX12_rounds_65 : decode cX12_rounds 65 = .ok (.goto 17, 3) := by decide +kernel
theorem dX12_rounds_68 : decode cX12_rounds 68 = .ok (.iconst 2, 1) := by decide +kernel
theorem dX12_rounds_69 : decode cX12_rounds 69 = .ok (.iload 5, 2) := by decide +kernel
theorem dX12_rounds_71 : decode cX12_rounds 71 = .ok (.imul, 1) := by decide +kernel
theorem dX12_rounds_72 : decode cX12_rounds 72 = .ok (.aload_n 0, 1) := by decide +kernel
theorem dX12_rounds_73 : decode cX12_rounds 73 = .ok (.getfield 13, 3) := by decide +kernel
theorem dX12_rounds_76 : decode cX12_rounds 76 = .ok (.irem, 1) := by decide +kernel
theorem dX12_rounds_77 : decode cX12_rounds 77 = .ok (.iload_n 2, 1) := by decide +kernel
theorem dX12_rounds_78 : decode cX12_rounds 78 = .ok (.iadd, 1) := by decide +kernel
theorem dX12_rounds_79 : decode cX12_rounds 79 = .ok (.iload 4, 2) := by decide +kernel
theorem dX12_rounds_81 : decode cX12_rounds 81 = .ok (.irem, 1) := by decide +kernel
theorem dX12_rounds_82 : decode cX12_rounds 82 = .ok (.istore 6, 2) := by decide +kernel
theorem dX12_rounds_84 : decode cX12_rounds 84 = .ok (.iload_n 3, 1) := by decide +kernel
theorem dX12_rounds_85 : decode cX12_rounds 85 = .ok (.iconst 1, 1) := by decide +kernel
theorem dX12_rounds_86 : decode cX12_rounds 86 = .ok (.iload 6, 2) := by decide +kernel
theorem dX12_rounds_88 : decode cX12_rounds 88 = .ok (.iload 4, 2) := by decide +kernel
theorem dX12_rounds_90 : decode cX12_rounds 90 = .ok (.iload 6, 2) := by decide +kernel
theorem dX12_rounds_92 : decode cX12_rounds 92 = .ok (.isub, 1) := by decide +kernel
theorem dX12_rounds_93 : decode cX12_rounds 93 = .ok (.invokestatic 127, 3) := by decide +kernel
theorem dX12_rounds_96 : decode cX12_rounds 96 = .ok (.ishl, 1) := by decide +kernel
theorem dX12_rounds_97 : decode cX12_rounds 97 = .ok (.iconst (-1), 1) := by decide +kernel
theorem dX12_rounds_98 : decode cX12_rounds 98 = .ok (.ixor, 1) := by decide +kernel
theorem dX12_rounds_99 : decode cX12_rounds 99 = .ok (.iand, 1) := by decide +kernel
theorem dX12_rounds_100 : decode cX12_rounds 100 = .ok (.istore_n 3, 1) := by decide +kernel
theorem dX12_rounds_101 : decode cX12_rounds 101 = .ok (.iinc 5 1, 3) := by decide +kernel
theorem dX12_rounds_104 : decode cX12_rounds 104 = .ok (.goto (-51), 3) := by decide +kernel
theorem dX12_rounds_107 : decode cX12_rounds 107 = .ok (.aload_n 0, 1) := by decide +kernel
theorem dX12_rounds_108 : decode cX12_rounds 108 = .ok (.iconst 0, 1) := by decide +kernel
theorem dX12_rounds_109 : decode cX12_rounds 109 = .ok (.putfield 104, 3) := by decide +kernel
theorem dX12_rounds_112 : decode cX12_rounds 112 = .ok (.aload_n 0, 1) := by decide +kernel
theorem dX12_rounds_113 : decode cX12_rounds 113 = .ok (.iload_n 3, 1) := by decide +kernel
theorem dX12_rounds_114 : decode cX12_rounds 114 = .ok (.invokestatic 305, 3) := by decide +kernel
theorem dX12_rounds_117 : decode cX12_rounds 117 = .ok (.i2l, 1) := by decide +kernel
theorem dX12_rounds_118 : decode cX12_rounds 118 = .ok (.invokevirtual 333, 3) := by decide +kernel
theorem dX12_rounds_121 : decode cX12_rounds 121 = .ok (.iload_n 3, 1) := by decide +kernel
theorem dX12_rounds_122 : decode cX12_rounds 122 = .ok (.ireturn, 1) := by decide +kernel
theorem dX12_rewardOf_0 : decode cX12_rewardOf 0 = .ok (.iconst 0, 1) := by decide +kernel
theorem dX12_rewardOf_1 : decode cX12_rewardOf 1 = .ok (.aload_n 0, 1) := by decide +kernel
theorem dX12_rewardOf_2 : decode cX12_rewardOf 2 = .ok (.aload_n 0, 1) := by decide +kernel
theorem dX12_rewardOf_3 : decode cX12_rewardOf 3 = .ok (.getfield 36, 3) := by decide +kernel
theorem dX12_rewardOf_6 : decode cX12_rewardOf 6 = .ok (.iload_n 1, 1) := by decide +kernel
theorem dX12_rewardOf_7 : decode cX12_rewardOf 7 = .ok (.invokevirtual 289, 3) := by decide +kernel
theorem dX12_rewardOf_10 : decode cX12_rewardOf 10 = .ok (.invokestatic 244, 3) := by decide +kernel
theorem dX12_rewardOf_13 : decode cX12_rewardOf 13 = .ok (.ireturn, 1) := by decide +kernel
theorem dX12_reward_0 : decode cX12_reward 0 = .ok (.aload_n 0, 1) := by decide +kernel
theorem dX12_reward_1 : decode cX12_reward 1 = .ok (.iconst 0, 1) := by decide +kernel
theorem dX12_reward_2 : decode cX12_reward 2 = .ok (.putfield 97, 3) := by decide +kernel
theorem dX12_reward_5 : decode cX12_reward 5 = .ok (.aload_n 0, 1) := by decide +kernel
theorem dX12_reward_6 : decode cX12_reward 6 = .ok (.iload_n 1, 1) := by decide +kernel
theorem dX12_reward_7 : decode cX12_reward 7 = .ok (.invokevirtual 284, 3) := by decide +kernel
theorem dX12_reward_10 : decode cX12_reward 10 = .ok (.ifCond .eq 11, 3) := by decide +kernel
theorem dX12_reward_13 : decode cX12_reward 13 = .ok (.aload_n 0, 1) := by decide +kernel
theorem dX12_reward_14 : decode cX12_reward 14 = .ok (.iload_n 1, 1) := by decide +kernel
theorem dX12_reward_15 : decode cX12_reward 15 = .ok (.invokevirtual 394, 3) := by decide +kernel
theorem dX12_reward_18 : decode cX12_reward 18 = .ok (.goto 4, 3) := by decide +kernel
theorem dX12_reward_21 : decode cX12_reward 21 = .ok (.iconst (-1), 1) := by decide +kernel
theorem dX12_reward_22 : decode cX12_reward 22 = .ok (.ireturn, 1) := by decide +kernel
theorem dX12_costOf_0 : decode cX12_costOf 0 = .ok (.iconst 0, 1) := by decide +kernel
theorem dX12_costOf_1 : decode cX12_costOf 1 = .ok (.istore_n 2, 1) := by decide +kernel
theorem dX12_costOf_2 : decode cX12_costOf 2 = .ok (.iconst 0, 1) := by decide +kernel
theorem dX12_costOf_3 : decode cX12_costOf 3 = .ok (.istore_n 3, 1) := by decide +kernel
theorem dX12_costOf_4 : decode cX12_costOf 4 = .ok (.iload_n 3, 1) := by decide +kernel
theorem dX12_costOf_5 : decode cX12_costOf 5 = .ok (.aload_n 0, 1) := by decide +kernel
theorem dX12_costOf_6 : decode cX12_costOf 6 = .ok (.getfield 111, 3) := by decide +kernel
theorem dX12_costOf_9 : decode cX12_costOf 9 = .ok (.if_icmp .ge 29, 3) := by decide +kernel
theorem dX12_costOf_12 : decode cX12_costOf 12 = .ok (.iload_n 2, 1) := by decide +kernel
theorem dX12_costOf_13 : decode cX12_costOf 13 = .ok (.iload_n 1, 1) := by decide +kernel
theorem dX12_costOf_14 : decode cX12_costOf 14 = .ok (.iload_n 3, 1) := by decide +kernel
theorem dX12_costOf_15 : decode cX12_costOf 15 = .ok (.invokestatic 114, 3) := by decide +kernel
theorem dX12_costOf_18 : decode cX12_costOf 18 = .ok (.ifCond .eq 11, 3) := by decide +kernel
theorem dX12_costOf_21 : decode cX12_costOf 21 = .ok (.aload_n 0, 1) := by decide +kernel
theorem dX12_costOf_22 : decode cX12_costOf 22 = .ok (.iload_n 3, 1) := by decide +kernel
theorem dX12_costOf_23 : decode cX12_costOf 23 = .ok (.invokevirtual 394, 3) := by decide +kernel
theorem dX12_costOf_26 : decode cX12_costOf 26 = .ok (.goto 4, 3) := by decide +kernel
theorem dX12_costOf_29 : decode cX12_costOf 29 = .ok (.iconst 0, 1) := by decide +kernel
theorem dX12_costOf_30 : decode cX12_costOf 30 = .ok (.iadd, 1) := by decide +kernel
theorem dX12_costOf_31 : decode cX12_costOf 31 = .ok (.istore_n 2, 1) := by decide +kernel
theorem dX12_costOf_32 : decode cX12_costOf 32 = .ok (.iinc 3 1, 3) := by decide +kernel
theorem dX12_costOf_35 : decode cX12_costOf 35 = .ok (.goto (-31), 3) := by decide +kernel
theorem dX12_costOf_38 : decode cX12_costOf 38 = .ok (.iload_n 2, 1) := by decide +kernel
theorem dX12_costOf_39 : decode cX12_costOf 39 = .ok (.ireturn, 1) := by decide +kernel
theorem dX12_pays_0 : decode cX12_pays 0 = .ok (.aload_n 0, 1) := by decide +kernel
theorem dX12_pays_1 : decode cX12_pays 1 = .ok (.iconst 0, 1) := by decide +kernel
theorem dX12_pays_2 : decode cX12_pays 2 = .ok (.putfield 97, 3) := by decide +kernel
theorem dX12_pays_5 : decode cX12_pays 5 = .ok (.iload_n 1, 1) := by decide +kernel
theorem dX12_pays_6 : decode cX12_pays 6 = .ok (.i2l, 1) := by decide +kernel
theorem dX12_pays_7 : decode cX12_pays 7 = .ok (.lconst 0, 1) := by decide +kernel
theorem dX12_pays_8 : decode cX12_pays 8 = .ok (.ldc2_w 397, 3) := by decide +kernel
theorem dX12_pays_11 : decode cX12_pays 11 = .ok (.invokestatic 107, 3) := by decide +kernel
theorem dX12_pays_14 : decode cX12_pays 14 = .ok (.ifCond .ne 5, 3) := by decide +kernel
theorem dX12_pays_17 : decode cX12_pays 17 = .ok (.iconst (-1), 1) := by decide +kernel
theorem dX12_pays_18 : decode cX12_pays 18 = .ok (.ireturn, 1) := by decide +kernel
theorem dX12_pays_19 : decode cX12_pays 19 = .ok (.iconst 0, 1) := by decide +kernel
theorem dX12_pays_20 : decode cX12_pays 20 = .ok (.istore_n 2, 1) := by decide +kernel
theorem dX12_pays_21 : decode cX12_pays 21 = .ok (.ldc_w 380, 3) := by decide +kernel
theorem dX12_pays_24 : decode cX12_pays 24 = .ok (.istore_n 3, 1) := by decide +kernel
theorem dX12_pays_25 : decode cX12_pays 25 = .ok (.iconst 0, 1) := by decide +kernel
theorem dX12_pays_26 : decode cX12_pays 26 = .ok (.istore 4, 2) := by decide +kernel
theorem dX12_pays_28 : decode cX12_pays 28 = .ok (.iconst 0, 1) := by decide +kernel
theorem dX12_pays_29 : decode cX12_pays 29 = .ok (.istore 5, 2) := by decide +kernel
theorem dX12_pays_31 : decode cX12_pays 31 = .ok (.iload 5, 2) := by decide +kernel
theorem dX12_pays_33 : decode cX12_pays 33 = .ok (.iconst 1, 1) := by decide +kernel
theorem dX12_pays_34 : decode cX12_pays 34 = .ok (.aload_n 0, 1) := by decide +kernel
theorem dX12_pays_35 : decode cX12_pays 35 = .ok (.getfield 111, 3) := by decide +kernel
theorem dX12_pays_38 : decode cX12_pays 38 = .ok (.ishl, 1) := by decide +kernel
theorem dX12_pays_39 : decode cX12_pays 39 = .ok (.if_icmp .ge 64, 3) := by decide +kernel
theorem dX12_pays_42 : decode cX12_pays 42 = .ok (.aload_n 0, 1) := by decide +kernel
theorem dX12_pays_43 : decode cX12_pays 43 = .ok (.iload 5, 2) := by decide +kernel
theorem dX12_pays_45 : decode cX12_pays 45 = .ok (.invokevirtual 399, 3) := by decide +kernel
theorem dX12_pays_48 : decode cX12_pays 48 = .ok (.istore 6, 2) := by decide +kernel
theorem dX12_pays_50 : decode cX12_pays 50 = .ok (.iload 6, 2) := by decide +kernel
theorem dX12_pays_52 : decode cX12_pays 52 = .ok (.iload_n 1, 1) := by decide +kernel
theorem dX12_pays_53 : decode cX12_pays 53 = .ok (.if_icmp .gt 44, 3) := by decide +kernel
theorem dX12_pays_56 : decode cX12_pays 56 = .ok (.aload_n 0, 1) := by decide +kernel
theorem dX12_pays_57 : decode cX12_pays 57 = .ok (.invokevirtual 356, 3) := by decide +kernel
theorem dX12_pays_60 : decode cX12_pays 60 = .ok (.aload_n 0, 1) := by decide +kernel
theorem dX12_pays_61 : decode cX12_pays 61 = .ok (.iload 5, 2) := by decide +kernel
theorem dX12_pays_63 : decode cX12_pays 63 = .ok (.invokevirtual 359, 3) := by decide +kernel
theorem dX12_pays_66 : decode cX12_pays 66 = .ok (.istore 7, 2) := by decide +kernel
theorem dX12_pays_68 : decode cX12_pays 68 = .ok (.iload 7, 2) := by decide +kernel
theorem dX12_pays_70 : decode cX12_pays 70 = .ok (.iload_n 3, 1) := by decide +kernel
theorem dX12_pays_71 : decode cX12_pays 71 = .ok (.if_icmp .lt 16, 3) := by decide +kernel
theorem dX12_pays_74 : decode cX12_pays 74 = .ok (.iload 7, 2) := by decide +kernel
theorem dX12_pays_76 : decode cX12_pays 76 = .ok (.iload_n 3, 1) := by decide +kernel
theorem dX12_pays_77 : decode cX12_pays 77 = .ok (.if_icmp .ne 20, 3) := by decide +kernel
theorem dX12_pays_80 : decode cX12_pays 80 = .ok (.iload 6, 2) := by decide +kernel
theorem dX12_pays_82 : decode cX12_pays 82 = .ok (.iload 4, 2) := by decide +kernel
theorem dX12_pays_84 : decode cX12_pays 84 = .ok (.if_icmp .ge 13, 3) := by decide +kernel
theorem dX12_pays_87 : decode cX12_pays 87 = .ok (.iload 5, 2) := by decide +kernel
theorem dX12_pays_89 : decode cX12_pays 89 = .ok (.istore_n 2, 1) := by decide +kernel
theorem dX12_pays_90 : decode cX12_pays 90 = .ok (.iload 7, 2) := by decide +kernel
theorem dX12_pays_92 : decode cX12_pays 92 = .ok (.istore_n 3, 1) := by decide +kernel
theorem dX12_pays_93 : decode cX12_pays 93 = .ok (.iload 6, 2) := by decide +kernel
theorem dX12_pays_95 : decode cX12_pays 95 = .ok (.istore 4, 2) := by decide +kernel
theorem dX12_pays_97 : decode cX12_pays 97 = .ok (.iinc 5 1, 3) := by decide +kernel
theorem dX12_pays_100 : decode cX12_pays 100 = .ok (.goto (-69), 3) := by decide +kernel
theorem dX12_pays_103 : decode cX12_pays 103 = .ok (.aload_n 0, 1) := by decide +kernel
theorem dX12_pays_104 : decode cX12_pays 104 = .ok (.iconst 0, 1) := by decide +kernel
theorem dX12_pays_105 : decode cX12_pays 105 = .ok (.putfield 104, 3) := by decide +kernel
theorem dX12_pays_108 : decode cX12_pays 108 = .ok (.aload_n 0, 1) := by decide +kernel
theorem dX12_pays_109 : decode cX12_pays 109 = .ok (.iload_n 2, 1) := by decide +kernel
theorem dX12_pays_110 : decode cX12_pays 110 = .ok (.i2l, 1) := by decide +kernel
theorem dX12_pays_111 : decode cX12_pays 111 = .ok (.invokevirtual 333, 3) := by decide +kernel
theorem dX12_pays_114 : decode cX12_pays 114 = .ok (.aload_n 0, 1) := by decide +kernel
theorem dX12_pays_115 : decode cX12_pays 115 = .ok (.iload 4, 2) := by decide +kernel
theorem dX12_pays_117 : decode cX12_pays 117 = .ok (.i2l, 1) := by decide +kernel
theorem dX12_pays_118 : decode cX12_pays 118 = .ok (.invokevirtual 333, 3) := by decide +kernel
theorem dX12_pays_121 : decode cX12_pays 121 = .ok (.iload_n 3, 1) := by decide +kernel
theorem dX12_pays_122 : decode cX12_pays 122 = .ok (.ireturn, 1) := by decide +kernel
theorem dX12_power_0 : decode cX12_power 0 = .ok (.lconst 1, 1) := by decide +kernel
theorem dX12_power_1 : decode cX12_power 1 = .ok (.lstore_n 2, 1) := by decide +kernel
theorem dX12_power_2 : decode cX12_power 2 = .ok (.iconst 0, 1) := by decide +kernel
theorem dX12_power_3 : decode cX12_power 3 = .ok (.istore 4, 2) := by decide +kernel
theorem dX12_power_5 : decode cX12_power 5 = .ok (.iload 4, 2) := by decide +kernel
theorem dX12_power_7 : decode cX12_power 7 = .ok (.iload_n 1, 1) := by decide +kernel
theorem dX12_power_8 : decode cX12_power 8 = .ok (.if_icmp .ge 14, 3) := by decide +kernel
theorem dX12_power_11 : decode cX12_power 11 = .ok (.lload_n 2, 1) := by decide +kernel
theorem dX12_power_12 : decode cX12_power 12 = .ok (.iload_n 0, 1) := by decide +kernel
theorem dX12_power_13 : decode cX12_power 13 = .ok (.i2l, 1) := by decide +kernel
theorem dX12_power_14 : decode cX12_power 14 = .ok (.lmul, 1) := by decide +kernel
theorem dX12_power_15 : decode cX12_power 15 = .ok (.lstore_n 2, 1) := by decide +kernel
theorem dX12_power_16 : decode cX12_power 16 = .ok (.iinc 4 1, 3) := by decide +kernel
theorem dX12_power_19 : decode cX12_power 19 = .ok (.goto (-14), 3) := by decide +kernel
theorem dX12_power_22 : decode cX12_power 22 = .ok (.lload_n 2, 1) := by decide +kernel
theorem dX12_power_23 : decode cX12_power 23 = .ok (.lreturn, 1) := by decide +kernel
theorem dX12_caught_0 : decode cX12_caught 0 = .ok (.aload_n 0, 1) := by decide +kernel
theorem dX12_caught_1 : decode cX12_caught 1 = .ok (.iconst 0, 1) := by decide +kernel
theorem dX12_caught_2 : decode cX12_caught 2 = .ok (.putfield 97, 3) := by decide +kernel
theorem dX12_caught_5 : decode cX12_caught 5 = .ok (.iload_n 1, 1) := by decide +kernel
theorem dX12_caught_6 : decode cX12_caught 6 = .ok (.i2l, 1) := by decide +kernel
theorem dX12_caught_7 : decode cX12_caught 7 = .ok (.lconst 1, 1) := by decide +kernel
theorem dX12_caught_8 : decode cX12_caught 8 = .ok (.ldc2_w 402, 3) := by decide +kernel
theorem dX12_caught_11 : decode cX12_caught 11 = .ok (.invokestatic 107, 3) := by decide +kernel
theorem dX12_caught_14 : decode cX12_caught 14 = .ok (.ifCond .eq 27, 3) := by decide +kernel
theorem dX12_caught_17 : decode cX12_caught 17 = .ok (.iload_n 2, 1) := by decide +kernel
theorem dX12_caught_18 : decode cX12_caught 18 = .ok (.i2l, 1) := by decide +kernel
theorem dX12_caught_19 : decode cX12_caught 19 = .ok (.lconst 0, 1) := by decide +kernel
theorem dX12_caught_20 : decode cX12_caught 20 = .ok (.ldc2_w 402, 3) := by decide +kernel
theorem dX12_caught_23 : decode cX12_caught 23 = .ok (.invokestatic 107, 3) := by decide +kernel
theorem dX12_caught_26 : decode cX12_caught 26 = .ok (.ifCond .eq 15, 3) := by decide +kernel
theorem dX12_caught_29 : decode cX12_caught 29 = .ok (.iload_n 3, 1) := by decide +kernel
theorem dX12_caught_30 : decode cX12_caught 30 = .ok (.i2l, 1) := by decide +kernel
theorem dX12_caught_31 : decode cX12_caught 31 = .ok (.lconst 0, 1) := by decide +kernel
theorem dX12_caught_32 : decode cX12_caught 32 = .ok (.ldc2_w 402, 3) := by decide +kernel
theorem dX12_caught_35 : decode cX12_caught 35 = .ok (.invokestatic 107, 3) := by decide +kernel
theorem dX12_caught_38 : decode cX12_caught 38 = .ok (.ifCond .ne 5, 3) := by decide +kernel
theorem dX12_caught_41 : decode cX12_caught 41 = .ok (.iconst (-1), 1) := by decide +kernel
theorem dX12_caught_42 : decode cX12_caught 42 = .ok (.ireturn, 1) := by decide +kernel
theorem dX12_caught_43 : decode cX12_caught 43 = .ok (.lconst 0, 1) := by decide +kernel
theorem dX12_caught_44 : decode cX12_caught 44 = .ok (.lstore 4, 2) := by decide +kernel
theorem dX12_caught_46 : decode cX12_caught 46 = .ok (.lconst 1, 1) := by decide +kernel
theorem dX12_caught_47 : decode cX12_caught 47 = .ok (.lstore 6, 2) := by decide +kernel
theorem dX12_caught_49 : decode cX12_caught 49 = .ok (.iconst 0, 1) := by decide +kernel
theorem dX12_caught_50 : decode cX12_caught 50 = .ok (.istore 8, 2) := by decide +kernel
theorem dX12_caught_52 : decode cX12_caught 52 = .ok (.iload 8, 2) := by decide +kernel
theorem dX12_caught_54 : decode cX12_caught 54 = .ok (.iload_n 1, 1) := by decide +kernel
theorem dX12_caught_55 : decode cX12_caught 55 = .ok (.if_icmp .gt 61, 3) := by decide +kernel
theorem dX12_caught_58 : decode cX12_caught 58 = .ok (.lload 4, 2) := by decide +kernel
theorem dX12_caught_60 : decode cX12_caught 60 = .ok (.iload 8, 2) := by decide +kernel
theorem dX12_caught_62 : decode cX12_caught 62 = .ok (.iload_n 2, 1) := by decide +kernel
theorem dX12_caught_63 : decode cX12_caught 63 = .ok (.if_icmp .lt 27, 3) := by decide +kernel
theorem dX12_caught_66 : decode cX12_caught 66 = .ok (.lload 6, 2) := by decide +kernel
theorem dX12_caught_68 : decode cX12_caught 68 = .ok (.iload_n 3, 1) := by decide +kernel
theorem dX12_caught_69 : decode cX12_caught 69 = .ok (.iload 8, 2) := by decide +kernel
theorem dX12_caught_71 : decode cX12_caught 71 = .ok (.invokestatic 404, 3) := by decide +kernel
theorem dX12_caught_74 : decode cX12_caught 74 = .ok (.lmul, 1) := by decide +kernel
theorem dX12_caught_75 : decode cX12_caught 75 = .ok (.bipush 10, 2) := by decide +kernel
theorem dX12_caught_77 : decode cX12_caught 77 = .ok (.iload_n 3, 1) := by decide +kernel
theorem dX12_caught_78 : decode cX12_caught 78 = .ok (.isub, 1) := by decide +kernel
theorem dX12_caught_79 : decode cX12_caught 79 = .ok (.iload_n 1, 1) := by decide +kernel
theorem dX12_caught_80 : decode cX12_caught 80 = .ok (.iload 8, 2) := by decide +kernel
theorem dX12_caught_82 : decode cX12_caught 82 = .ok (.isub, 1) := by decide +kernel
theorem dX12_caught_83 : decode cX12_caught 83 = .ok (.invokestatic 404, 3) := by decide +kernel
theorem dX12_caught_86 : decode cX12_caught 86 = .ok (.lmul, 1) := by decide +kernel
theorem dX12_caught_87 : decode cX12_caught 87 = .ok (.goto 4, 3) := by decide +kernel
theorem dX12_caught_90 : decode cX12_caught 90 = .ok (.lconst 0, 1) := by decide +kernel
theorem dX12_caught_91 : decode cX12_caught 91 = .ok (.ladd, 1) := by decide +kernel
theorem dX12_caught_92 : decode cX12_caught 92 = .ok (.lstore 4, 2) := by decide +kernel
theorem dX12_caught_94 : decode cX12_caught 94 = .ok (.lload 6, 2) := by decide +kernel
theorem dX12_caught_96 : decode cX12_caught 96 = .ok (.iload_n 1, 1) := by decide +kernel
theorem dX12_caught_97 : decode cX12_caught 97 = .ok (.iload 8, 2) := by decide +kernel
theorem dX12_caught_99 : decode cX12_caught 99 = .ok (.isub, 1) := by decide +kernel
theorem dX12_caught_100 : decode cX12_caught 100 = .ok (.i2l, 1) := by decide +kernel
theorem dX12_caught_101 : decode cX12_caught 101 = .ok (.lmul, 1) := by decide +kernel
theorem dX12_caught_102 : decode cX12_caught 102 = .ok (.iload 8, 2) := by decide +kernel
theorem dX12_caught_104 : decode cX12_caught 104 = .ok (.iconst 1, 1) := by decide +kernel
theorem dX12_caught_105 : decode cX12_caught 105 = .ok (.iadd, 1) := by decide +kernel
theorem dX12_caught_106 : decode cX12_caught 106 = .ok (.i2l, 1) := by decide +kernel
theorem dX12_caught_107 : decode cX12_caught 107 = .ok (.ldiv, 1) := by decide +kernel
theorem dX12_caught_108 : decode cX12_caught 108 = .ok (.lstore 6, 2) := by decide +kernel
theorem dX12_caught_110 : decode cX12_caught 110 = .ok (.iinc 8 1, 3) := by decide +kernel
theorem dX12_caught_113 : decode cX12_caught 113 = .ok (.goto (-61), 3) := by decide +kernel
theorem dX12_caught_116 : decode cX12_caught 116 = .ok (.bipush 10, 2) := by decide +kernel
theorem dX12_caught_118 : decode cX12_caught 118 = .ok (.iload_n 1, 1) := by decide +kernel
theorem dX12_caught_119 : decode cX12_caught 119 = .ok (.invokestatic 404, 3) := by decide +kernel
theorem dX12_caught_122 : decode cX12_caught 122 = .ok (.lstore 8, 2) := by decide +kernel
theorem dX12_caught_124 : decode cX12_caught 124 = .ok (.lload 4, 2) := by decide +kernel
theorem dX12_caught_126 : decode cX12_caught 126 = .ok (.lload 8, 2) := by decide +kernel
theorem dX12_caught_128 : decode cX12_caught 128 = .ok (.invokestatic 100, 3) := by decide +kernel
theorem dX12_caught_131 : decode cX12_caught 131 = .ok (.lstore 10, 2) := by decide +kernel
theorem dX12_caught_133 : decode cX12_caught 133 = .ok (.aload_n 0, 1) := by decide +kernel
theorem dX12_caught_134 : decode cX12_caught 134 = .ok (.iconst 0, 1) := by decide +kernel
theorem dX12_caught_135 : decode cX12_caught 135 = .ok (.putfield 104, 3) := by decide +kernel
theorem dX12_caught_138 : decode cX12_caught 138 = .ok (.aload_n 0, 1) := by decide +kernel
theorem dX12_caught_139 : decode cX12_caught 139 = .ok (.lload 4, 2) := by decide +kernel
theorem dX12_caught_141 : decode cX12_caught 141 = .ok (.lload 10, 2) := by decide +kernel
theorem dX12_caught_143 : decode cX12_caught 143 = .ok (.ldiv, 1) := by decide +kernel
theorem dX12_caught_144 : decode cX12_caught 144 = .ok (.invokevirtual 333, 3) := by decide +kernel
theorem dX12_caught_147 : decode cX12_caught 147 = .ok (.aload_n 0, 1) := by decide +kernel
theorem dX12_caught_148 : decode cX12_caught 148 = .ok (.lload 8, 2) := by decide +kernel
theorem dX12_caught_150 : decode cX12_caught 150 = .ok (.lload 10, 2) := by decide +kernel
theorem dX12_caught_152 : decode cX12_caught 152 = .ok (.ldiv, 1) := by decide +kernel
theorem dX12_caught_153 : decode cX12_caught 153 = .ok (.invokevirtual 333, 3) := by decide +kernel
theorem dX12_caught_156 : decode cX12_caught 156 = .ok (.iconst 0, 1) := by decide +kernel
theorem dX12_caught_157 : decode cX12_caught 157 = .ok (.ireturn, 1) := by decide +kernel
theorem dX12_lasts_0 : decode cX12_lasts 0 = .ok (.aload_n 0, 1) := by decide +kernel
theorem dX12_lasts_1 : decode cX12_lasts 1 = .ok (.iconst 0, 1) := by decide +kernel
theorem dX12_lasts_2 : decode cX12_lasts 2 = .ok (.putfield 97, 3) := by decide +kernel
theorem dX12_lasts_5 : decode cX12_lasts 5 = .ok (.iload_n 1, 1) := by decide +kernel
theorem dX12_lasts_6 : decode cX12_lasts 6 = .ok (.i2l, 1) := by decide +kernel
theorem dX12_lasts_7 : decode cX12_lasts 7 = .ok (.lconst 0, 1) := by decide +kernel
theorem dX12_lasts_8 : decode cX12_lasts 8 = .ok (.ldc2_w 402, 3) := by decide +kernel
theorem dX12_lasts_11 : decode cX12_lasts 11 = .ok (.invokestatic 107, 3) := by decide +kernel
theorem dX12_lasts_14 : decode cX12_lasts 14 = .ok (.ifCond .eq 15, 3) := by decide +kernel
theorem dX12_lasts_17 : decode cX12_lasts 17 = .ok (.iload_n 2, 1) := by decide +kernel
theorem dX12_lasts_18 : decode cX12_lasts 18 = .ok (.i2l, 1) := by decide +kernel
theorem dX12_lasts_19 : decode cX12_lasts 19 = .ok (.lconst 0, 1) := by decide +kernel
theorem dX12_lasts_20 : decode cX12_lasts 20 = .ok (.ldc2_w 408, 3) := by decide +kernel
theorem dX12_lasts_23 : decode cX12_lasts 23 = .ok (.invokestatic 107, 3) := by decide +kernel
theorem dX12_lasts_26 : decode cX12_lasts 26 = .ok (.ifCond .ne 5, 3) := by decide +kernel
theorem dX12_lasts_29 : decode cX12_lasts 29 = .ok (.iconst (-1), 1) := by decide +kernel
theorem dX12_lasts_30 : decode cX12_lasts 30 = .ok (.ireturn, 1) := by decide +kernel
theorem dX12_lasts_31 : decode cX12_lasts 31 = .ok (.iconst 0, 1) := by decide +kernel
theorem dX12_lasts_32 : decode cX12_lasts 32 = .ok (.istore_n 3, 1) := by decide +kernel
theorem dX12_lasts_33 : decode cX12_lasts 33 = .ok (.iconst 1, 1) := by decide +kernel
theorem dX12_lasts_34 : decode cX12_lasts 34 = .ok (.istore 4, 2) := by decide +kernel
theorem dX12_lasts_36 : decode cX12_lasts 36 = .ok (.iload 4, 2) := by decide +kernel
theorem dX12_lasts_38 : decode cX12_lasts 38 = .ok (.bipush 12, 2) := by decide +kernel
theorem dX12_lasts_40 : decode cX12_lasts 40 = .ok (.if_icmp .gt 43, 3) := by decide +kernel
theorem dX12_lasts_43 : decode cX12_lasts 43 = .ok (.ldc2_w 408, 3) := by decide +kernel
theorem dX12_lasts_46 : decode cX12_lasts 46 = .ok (.bipush 10, 2) := by decide +kernel
theorem dX12_lasts_48 : decode cX12_lasts 48 = .ok (.iload_n 1, 1) := by decide +kernel
theorem dX12_lasts_49 : decode cX12_lasts 49 = .ok (.isub, 1) := by decide +kernel
theorem dX12_lasts_50 : decode cX12_lasts 50 = .ok (.iload 4, 2) := by decide +kernel
theorem dX12_lasts_52 : decode cX12_lasts 52 = .ok (.invokestatic 404, 3) := by decide +kernel
theorem dX12_lasts_55 : decode cX12_lasts 55 = .ok (.lmul, 1) := by decide +kernel
theorem dX12_lasts_56 : decode cX12_lasts 56 = .ok (.iload_n 2, 1) := by decide +kernel
theorem dX12_lasts_57 : decode cX12_lasts 57 = .ok (.i2l, 1) := by decide +kernel
theorem dX12_lasts_58 : decode cX12_lasts 58 = .ok (.bipush 10, 2) := by decide +kernel
theorem dX12_lasts_60 : decode cX12_lasts 60 = .ok (.iload 4, 2) := by decide +kernel
theorem dX12_lasts_62 : decode cX12_lasts 62 = .ok (.invokestatic 404, 3) := by decide +kernel
theorem dX12_lasts_65 : decode cX12_lasts 65 = .ok (.lmul, 1) := by decide +kernel
theorem dX12_lasts_66 : decode cX12_lasts 66 = .ok (.lcmp, 1) := by decide +kernel
theorem dX12_lasts_67 : decode cX12_lasts 67 = .ok (.ifCond .lt 8, 3) := by decide +kernel
theorem dX12_lasts_70 : decode cX12_lasts 70 = .ok (.iload 4, 2) := by decide +kernel
theorem dX12_lasts_72 : decode cX12_lasts 72 = .ok (.goto 4, 3) := by decide +kernel
theorem dX12_lasts_75 : decode cX12_lasts 75 = .ok (.iload_n 3, 1) := by decide +kernel
theorem dX12_lasts_76 : decode cX12_lasts 76 = .ok (.istore_n 3, 1) := by decide +kernel
theorem dX12_lasts_77 : decode cX12_lasts 77 = .ok (.iinc 4 1, 3) := by decide +kernel
theorem dX12_lasts_80 : decode cX12_lasts 80 = .ok (.goto (-44), 3) := by decide +kernel
theorem dX12_lasts_83 : decode cX12_lasts 83 = .ok (.iload_n 3, 1) := by decide +kernel
theorem dX12_lasts_84 : decode cX12_lasts 84 = .ok (.ireturn, 1) := by decide +kernel
theorem dX12_heard_0 : decode cX12_heard 0 = .ok (.aload_n 0, 1) := by decide +kernel
theorem dX12_heard_1 : decode cX12_heard 1 = .ok (.iconst 0, 1) := by decide +kernel
theorem dX12_heard_2 : decode cX12_heard 2 = .ok (.putfield 97, 3) := by decide +kernel
theorem dX12_heard_5 : decode cX12_heard 5 = .ok (.iload_n 1, 1) := by decide +kernel
theorem dX12_heard_6 : decode cX12_heard 6 = .ok (.iconst 1, 1) := by decide +kernel
theorem dX12_heard_7 : decode cX12_heard 7 = .ok (.if_icmp .ne 7, 3) := by decide +kernel
theorem dX12_heard_10 : decode cX12_heard 10 = .ok (.iconst 1, 1) := by decide +kernel
theorem dX12_heard_11 : decode cX12_heard 11 = .ok (.goto 4, 3) := by decide +kernel
theorem dX12_heard_14 : decode cX12_heard 14 = .ok (.iconst 0, 1) := by decide +kernel
theorem dX12_heard_15 : decode cX12_heard 15 = .ok (.istore_n 3, 1) := by decide +kernel
theorem dX12_heard_16 : decode cX12_heard 16 = .ok (.iload_n 1, 1) := by decide +kernel
theorem dX12_heard_17 : decode cX12_heard 17 = .ok (.ifCond .ne 7, 3) := by decide +kernel
theorem dX12_heard_20 : decode cX12_heard 20 = .ok (.iconst 4, 1) := by decide +kernel
theorem dX12_heard_21 : decode cX12_heard 21 = .ok (.goto 14, 3) := by decide +kernel
theorem dX12_heard_24 : decode cX12_heard 24 = .ok (.iload_n 1, 1) := by decide +kernel
theorem dX12_heard_25 : decode cX12_heard 25 = .ok (.iconst 1, 1) := by decide +kernel
theorem dX12_heard_26 : decode cX12_heard 26 = .ok (.if_icmp .ne 8, 3) := by decide +kernel
theorem dX12_heard_29 : decode cX12_heard 29 = .ok (.bipush 9, 2) := by decide +kernel
theorem dX12_heard_31 : decode cX12_heard 31 = .ok (.goto 4, 3) := by decide +kernel
theorem dX12_heard_34 : decode cX12_heard 34 = .ok (.iconst 1, 1) := by decide +kernel
theorem dX12_heard_35 : decode cX12_heard 35 = .ok (.istore 4, 2) := by decide +kernel
theorem dX12_heard_37 : decode cX12_heard 37 = .ok (.iload_n 1, 1) := by decide +kernel
theorem dX12_heard_38 : decode cX12_heard 38 = .ok (.i2l, 1) := by decide +kernel
theorem dX12_heard_39 : decode cX12_heard 39 = .ok (.lconst 0, 1) := by decide +kernel
theorem dX12_heard_40 : decode cX12_heard 40 = .ok (.ldc2_w 279, 3) := by decide +kernel
theorem dX12_heard_43 : decode cX12_heard 43 = .ok (.invokestatic 107, 3) := by decide +kernel
theorem dX12_heard_46 : decode cX12_heard 46 = .ok (.ifCond .eq 25, 3) := by decide +kernel
theorem dX12_heard_49 : decode cX12_heard 49 = .ok (.iload_n 2, 1) := by decide +kernel
theorem dX12_heard_50 : decode cX12_heard 50 = .ok (.i2l, 1) := by decide +kernel
theorem dX12_heard_51 : decode cX12_heard 51 = .ok (.iload_n 3, 1) := by decide +kernel
theorem dX12_heard_52 : decode cX12_heard 52 = .ok (.i2l, 1) := by decide +kernel
theorem dX12_heard_53 : decode cX12_heard 53 = .ok (.iload 4, 2) := by decide +kernel
theorem dX12_heard_55 : decode cX12_heard 55 = .ok (.i2l, 1) := by decide +kernel
theorem dX12_heard_56 : decode cX12_heard 56 = .ok (.invokestatic 107, 3) := by decide +kernel
theorem dX12_heard_59 : decode cX12_heard 59 = .ok (.ifCond .eq 12, 3) := by decide +kernel
theorem dX12_heard_62 : decode cX12_heard 62 = .ok (.aload_n 0, 1) := by decide +kernel
theorem dX12_heard_63 : decode cX12_heard 63 = .ok (.getfield 410, 3) := by decide +kernel
theorem dX12_heard_66 : decode cX12_heard 66 = .ok (.bipush 12, 2) := by decide +kernel
theorem dX12_heard_68 : decode cX12_heard 68 = .ok (.if_icmp .ne 5, 3) := by decide +kernel
theorem dX12_heard_71 : decode cX12_heard 71 = .ok (.iconst (-1), 1) := by decide +kernel
theorem dX12_heard_72 : decode cX12_heard 72 = .ok (.ireturn, 1) := by decide +kernel
theorem dX12_heard_73 : decode cX12_heard 73 = .ok (.aload_n 0, 1) := by decide +kernel
theorem dX12_heard_74 : decode cX12_heard 74 = .ok (.getfield 81, 3) := by decide +kernel
theorem dX12_heard_77 : decode cX12_heard 77 = .ok (.aload_n 0, 1) := by decide +kernel
theorem dX12_heard_78 : decode cX12_heard 78 = .ok (.getfield 410, 3) := by decide +kernel
theorem dX12_heard_81 : decode cX12_heard 81 = .ok (.iload_n 1, 1) := by decide +kernel
theorem dX12_heard_82 : decode cX12_heard 82 = .ok (.iastore, 1) := by decide +kernel
theorem dX12_heard_83 : decode cX12_heard 83 = .ok (.aload_n 0, 1) := by decide +kernel
theorem dX12_heard_84 : decode cX12_heard 84 = .ok (.getfield 84, 3) := by decide +kernel
theorem dX12_heard_87 : decode cX12_heard 87 = .ok (.aload_n 0, 1) := by decide +kernel
theorem dX12_heard_88 : decode cX12_heard 88 = .ok (.getfield 410, 3) := by decide +kernel
theorem dX12_heard_91 : decode cX12_heard 91 = .ok (.iload_n 2, 1) := by decide +kernel
theorem dX12_heard_92 : decode cX12_heard 92 = .ok (.iastore, 1) := by decide +kernel
theorem dX12_heard_93 : decode cX12_heard 93 = .ok (.aload_n 0, 1) := by decide +kernel
theorem dX12_heard_94 : decode cX12_heard 94 = .ok (.dup, 1) := by decide +kernel
theorem dX12_heard_95 : decode cX12_heard 95 = .ok (.getfield 410, 3) := by decide +kernel
theorem dX12_heard_98 : decode cX12_heard 98 = .ok (.iconst 1, 1) := by decide +kernel
theorem dX12_heard_99 : decode cX12_heard 99 = .ok (.iadd, 1) := by decide +kernel
theorem dX12_heard_100 : decode cX12_heard 100 = .ok (.putfield 410, 3) := by decide +kernel
theorem dX12_heard_103 : decode cX12_heard 103 = .ok (.aload_n 0, 1) := by decide +kernel
theorem dX12_heard_104 : decode cX12_heard 104 = .ok (.getfield 410, 3) := by decide +kernel
theorem dX12_heard_107 : decode cX12_heard 107 = .ok (.ireturn, 1) := by decide +kernel
theorem dX12_forget_0 : decode cX12_forget 0 = .ok (.aload_n 0, 1) := by decide +kernel
theorem dX12_forget_1 : decode cX12_forget 1 = .ok (.iconst 0, 1) := by decide +kernel
theorem dX12_forget_2 : decode cX12_forget 2 = .ok (.putfield 97, 3) := by decide +kernel
theorem dX12_forget_5 : decode cX12_forget 5 = .ok (.aload_n 0, 1) := by decide +kernel
theorem dX12_forget_6 : decode cX12_forget 6 = .ok (.getfield 410, 3) := by decide +kernel
theorem dX12_forget_9 : decode cX12_forget 9 = .ok (.istore_n 1, 1) := by decide +kernel
theorem dX12_forget_10 : decode cX12_forget 10 = .ok (.aload_n 0, 1) := by decide +kernel
theorem dX12_forget_11 : decode cX12_forget 11 = .ok (.iconst 0, 1) := by decide +kernel
theorem dX12_forget_12 : decode cX12_forget 12 = .ok (.putfield 410, 3) := by decide +kernel
theorem dX12_forget_15 : decode cX12_forget 15 = .ok (.iload_n 1, 1) := by decide +kernel
theorem dX12_forget_16 : decode cX12_forget 16 = .ok (.ireturn, 1) := by decide +kernel
theorem dX12_isSo_0 : decode cX12_isSo 0 = .ok (.iload_n 2, 1) := by decide +kernel
theorem dX12_isSo_1 : decode cX12_isSo 1 = .ok (.lookupswitch 59 #[(0, 27), (1, 43)], 27) := by decide +kernel
theorem dX12_isSo_28 : decode cX12_isSo 28 = .ok (.aload_n 0, 1) := by decide +kernel
theorem dX12_isSo_29 : decode cX12_isSo 29 = .ok (.getfield 24, 3) := by decide +kernel
theorem dX12_isSo_32 : decode cX12_isSo 32 = .ok (.iload_n 1, 1) := by decide +kernel
theorem dX12_isSo_33 : decode cX12_isSo 33 = .ok (.iaload, 1) := by decide +kernel
theorem dX12_isSo_34 : decode cX12_isSo 34 = .ok (.iload_n 3, 1) := by decide +kernel
theorem dX12_isSo_35 : decode cX12_isSo 35 = .ok (.if_icmp .ne 7, 3) := by decide +kernel
theorem dX12_isSo_38 : decode cX12_isSo 38 = .ok (.iconst 1, 1) := by decide +kernel
theorem dX12_isSo_39 : decode cX12_isSo 39 = .ok (.goto 4, 3) := by decide +kernel
theorem dX12_isSo_42 : decode cX12_isSo 42 = .ok (.iconst 0, 1) := by decide +kernel
theorem dX12_isSo_43 : decode cX12_isSo 43 = .ok (.ireturn, 1) := by decide +kernel
theorem dX12_isSo_44 : decode cX12_isSo 44 = .ok (.aload_n 0, 1) := by decide +kernel
theorem dX12_isSo_45 : decode cX12_isSo 45 = .ok (.getfield 27, 3) := by decide +kernel
theorem dX12_isSo_48 : decode cX12_isSo 48 = .ok (.iload_n 1, 1) := by decide +kernel
theorem dX12_isSo_49 : decode cX12_isSo 49 = .ok (.iaload, 1) := by decide +kernel
theorem dX12_isSo_50 : decode cX12_isSo 50 = .ok (.iload_n 3, 1) := by decide +kernel
theorem dX12_isSo_51 : decode cX12_isSo 51 = .ok (.if_icmp .lt 7, 3) := by decide +kernel
theorem dX12_isSo_54 : decode cX12_isSo 54 = .ok (.iconst 1, 1) := by decide +kernel
theorem dX12_isSo_55 : decode cX12_isSo 55 = .ok (.goto 4, 3) := by decide +kernel
theorem dX12_isSo_58 : decode cX12_isSo 58 = .ok (.iconst 0, 1) := by decide +kernel
theorem dX12_isSo_59 : decode cX12_isSo 59 = .ok (.ireturn, 1) := by decide +kernel
theorem dX12_isSo_60 : decode cX12_isSo 60 = .ok (.aload_n 0, 1) := by decide +kernel
theorem dX12_isSo_61 : decode cX12_isSo 61 = .ok (.aload_n 0, 1) := by decide +kernel
theorem dX12_isSo_62 : decode cX12_isSo 62 = .ok (.getfield 36, 3) := by decide +kernel
theorem dX12_isSo_65 : decode cX12_isSo 65 = .ok (.iload_n 1, 1) := by decide +kernel
theorem dX12_isSo_66 : decode cX12_isSo 66 = .ok (.invokevirtual 289, 3) := by decide +kernel
theorem dX12_isSo_69 : decode cX12_isSo 69 = .ok (.ifCond .le 7, 3) := by decide +kernel
theorem dX12_isSo_72 : decode cX12_isSo 72 = .ok (.iconst 1, 1) := by decide +kernel
theorem dX12_isSo_73 : decode cX12_isSo 73 = .ok (.goto 4, 3) := by decide +kernel
theorem dX12_isSo_76 : decode cX12_isSo 76 = .ok (.iconst 0, 1) := by decide +kernel
theorem dX12_isSo_77 : decode cX12_isSo 77 = .ok (.invokestatic 136, 3) := by decide +kernel
theorem dX12_isSo_80 : decode cX12_isSo 80 = .ok (.iload_n 3, 1) := by decide +kernel
theorem dX12_isSo_81 : decode cX12_isSo 81 = .ok (.if_icmp .ne 7, 3) := by decide +kernel
theorem dX12_isSo_84 : decode cX12_isSo 84 = .ok (.iconst 1, 1) := by decide +kernel
theorem dX12_isSo_85 : decode cX12_isSo 85 = .ok (.goto 4, 3) := by decide +kernel
theorem dX12_isSo_88 : decode cX12_isSo 88 = .ok (.iconst 0, 1) := by decide +kernel
theorem dX12_isSo_89 : decode cX12_isSo 89 = .ok (.ireturn, 1) := by decide +kernel
theorem dX12_fitting_0 : decode cX12_fitting 0 = .ok (.iconst 0, 1) := by decide +kernel
theorem dX12_fitting_1 : decode cX12_fitting 1 = .ok (.istore_n 1, 1) := by decide +kernel
theorem dX12_fitting_2 : decode cX12_fitting 2 = .ok (.iconst 0, 1) := by decide +kernel
theorem dX12_fitting_3 : decode cX12_fitting 3 = .ok (.istore_n 2, 1) := by decide +kernel
theorem dX12_fitting_4 : decode cX12_fitting 4 = .ok (.iload_n 2, 1) := by decide +kernel
theorem dX12_fitting_5 : decode cX12_fitting 5 = .ok (.aload_n 0, 1) := by decide +kernel
theorem dX12_fitting_6 : decode cX12_fitting 6 = .ok (.getfield 111, 3) := by decide +kernel
theorem dX12_fitting_9 : decode cX12_fitting 9 = .ok (.if_icmp .ge 75, 3) := by decide +kernel
theorem dX12_fitting_12 : decode cX12_fitting 12 = .ok (.iconst 1, 1) := by decide +kernel
theorem dX12_fitting_13 : decode cX12_fitting 13 = .ok (.istore_n 3, 1) := by decide +kernel
theorem dX12_fitting_14 : decode cX12_fitting 14 = .ok (.iconst 0, 1) := by decide +kernel
theorem dX12_fitting_15 : decode cX12_fitting 15 = .ok (.istore 4, 2) := by decide +kernel
theorem dX12_fitting_17 : decode cX12_fitting 17 = .ok (.iload 4, 2) := by decide +kernel
theorem dX12_fitting_19 : decode cX12_fitting 19 = .ok (.aload_n 0, 1) := by decide +kernel
theorem dX12_fitting_20 : decode cX12_fitting 20 = .ok (.getfield 410, 3) := by decide +kernel
theorem dX12_fitting_23 : decode cX12_fitting 23 = .ok (.if_icmp .ge 41, 3) := by decide +kernel
theorem dX12_fitting_26 : decode cX12_fitting 26 = .ok (.iload_n 3, 1) := by decide +kernel
theorem dX12_fitting_27 : decode cX12_fitting 27 = .ok (.ifCond .eq 29, 3) := by decide +kernel
theorem dX12_fitting_30 : decode cX12_fitting 30 = .ok (.aload_n 0, 1) := by decide +kernel
theorem dX12_fitting_31 : decode cX12_fitting 31 = .ok (.iload_n 2, 1) := by decide +kernel
theorem dX12_fitting_32 : decode cX12_fitting 32 = .ok (.aload_n 0, 1) := by decide +kernel
theorem dX12_fitting_33 : decode cX12_fitting 33 = .ok (.getfield 81, 3) := by decide +kernel
theorem dX12_fitting_36 : decode cX12_fitting 36 = .ok (.iload 4, 2) := by decide +kernel
theorem dX12_fitting_38 : decode cX12_fitting 38 = .ok (.iaload, 1) := by decide +kernel
theorem dX12_fitting_39 : decode cX12_fitting 39 = .ok (.aload_n 0, 1) := by decide +kernel
theorem dX12_fitting_40 : decode cX12_fitting 40 = .ok (.getfield 84, 3) := by decide +kernel
theorem dX12_fitting_43 : decode cX12_fitting 43 = .ok (.iload 4, 2) := by decide +kernel
theorem dX12_fitting_45 : decode cX12_fitting 45 = .ok (.iaload, 1) := by decide +kernel
theorem dX12_fitting_46 : decode cX12_fitting 46 = .ok (.invokevirtual 413, 3) := by decide +kernel
theorem dX12_fitting_49 : decode cX12_fitting 49 = .ok (.ifCond .eq 7, 3) := by decide +kernel
theorem dX12_fitting_52 : decode cX12_fitting 52 = .ok (.iconst 1, 1) := by decide +kernel
theorem dX12_fitting_53 : decode cX12_fitting 53 = .ok (.goto 4, 3) := by decide +kernel
theorem dX12_fitting_56 : decode cX12_fitting 56 = .ok (.iconst 0, 1) := by decide +kernel
theorem dX12_fitting_57 : decode cX12_fitting 57 = .ok (.istore_n 3, 1) := by decide +kernel
theorem dX12_fitting_58 : decode cX12_fitting 58 = .ok (.iinc 4 1, 3) := by decide +kernel
theorem dX12_fitting_61 : decode cX12_fitting 61 = .ok (.goto (-44), 3) := by decide +kernel
theorem dX12_fitting_64 : decode cX12_fitting 64 = .ok (.iload_n 1, 1) := by decide +kernel
theorem dX12_fitting_65 : decode cX12_fitting 65 = .ok (.iload_n 3, 1) := by decide +kernel
theorem dX12_fitting_66 : decode cX12_fitting 66 = .ok (.ifCond .eq 9, 3) := by decide +kernel
theorem dX12_fitting_69 : decode cX12_fitting 69 = .ok (.iconst 1, 1) := by decide +kernel
theorem dX12_fitting_70 : decode cX12_fitting 70 = .ok (.iload_n 2, 1) := by decide +kernel
theorem dX12_fitting_71 : decode cX12_fitting 71 = .ok (.ishl, 1) := by decide +kernel
theorem dX12_fitting_72 : decode cX12_fitting 72 = .ok (.goto 4, 3) := by decide +kernel
theorem dX12_fitting_75 : decode cX12_fitting 75 = .ok (.iconst 0, 1) := by decide +kernel
theorem dX12_fitting_76 : decode cX12_fitting 76 = .ok (.ior, 1) := by decide +kernel
theorem dX12_fitting_77 : decode cX12_fitting 77 = .ok (.istore_n 1, 1) := by decide +kernel
theorem dX12_fitting_78 : decode cX12_fitting 78 = .ok (.iinc 2 1, 3) := by decide +kernel
theorem dX12_fitting_81 : decode cX12_fitting 81 = .ok (.goto (-77), 3) := by decide +kernel
theorem dX12_fitting_84 : decode cX12_fitting 84 = .ok (.iload_n 1, 1) := by decide +kernel
theorem dX12_fitting_85 : decode cX12_fitting 85 = .ok (.ireturn, 1) := by decide +kernel
theorem dX12_fits_0 : decode cX12_fits 0 = .ok (.aload_n 0, 1) := by decide +kernel
theorem dX12_fits_1 : decode cX12_fits 1 = .ok (.iconst 0, 1) := by decide +kernel
theorem dX12_fits_2 : decode cX12_fits 2 = .ok (.putfield 97, 3) := by decide +kernel
theorem dX12_fits_5 : decode cX12_fits 5 = .ok (.aload_n 0, 1) := by decide +kernel
theorem dX12_fits_6 : decode cX12_fits 6 = .ok (.invokevirtual 417, 3) := by decide +kernel
theorem dX12_fits_9 : decode cX12_fits 9 = .ok (.istore_n 1, 1) := by decide +kernel
theorem dX12_fits_10 : decode cX12_fits 10 = .ok (.iconst 0, 1) := by decide +kernel
theorem dX12_fits_11 : decode cX12_fits 11 = .ok (.istore_n 2, 1) := by decide +kernel
theorem dX12_fits_12 : decode cX12_fits 12 = .ok (.iconst 0, 1) := by decide +kernel
theorem dX12_fits_13 : decode cX12_fits 13 = .ok (.istore_n 3, 1) := by decide +kernel
theorem dX12_fits_14 : decode cX12_fits 14 = .ok (.iload_n 3, 1) := by decide +kernel
theorem dX12_fits_15 : decode cX12_fits 15 = .ok (.aload_n 0, 1) := by decide +kernel
theorem dX12_fits_16 : decode cX12_fits 16 = .ok (.getfield 111, 3) := by decide +kernel
theorem dX12_fits_19 : decode cX12_fits 19 = .ok (.if_icmp .ge 30, 3) := by decide +kernel
theorem dX12_fits_22 : decode cX12_fits 22 = .ok (.iload_n 2, 1) := by decide +kernel
theorem dX12_fits_23 : decode cX12_fits 23 = .ok (.iload_n 1, 1) := by decide +kernel
theorem dX12_fits_24 : decode cX12_fits 24 = .ok (.iload_n 3, 1) := by decide +kernel
theorem dX12_fits_25 : decode cX12_fits 25 = .ok (.invokestatic 114, 3) := by decide +kernel
theorem dX12_fits_28 : decode cX12_fits 28 = .ok (.ifCond .eq 12, 3) := by decide +kernel
theorem dX12_fits_31 : decode cX12_fits 31 = .ok (.aload_n 0, 1) := by decide +kernel
theorem dX12_fits_32 : decode cX12_fits 32 = .ok (.getfield 27, 3) := by decide +kernel
theorem dX12_fits_35 : decode cX12_fits 35 = .ok (.iload_n 3, 1) := by decide +kernel
theorem dX12_fits_36 : decode cX12_fits 36 = .ok (.iaload, 1) := by decide +kernel
theorem dX12_fits_37 : decode cX12_fits 37 = .ok (.goto 4, 3) := by decide +kernel
theorem dX12_fits_40 : decode cX12_fits 40 = .ok (.iconst 0, 1) := by decide +kernel
theorem dX12_fits_41 : decode cX12_fits 41 = .ok (.iadd, 1) := by decide +kernel
theorem dX12_fits_42 : decode cX12_fits 42 = .ok (.istore_n 2, 1) := by decide +kernel
theorem dX12_fits_43 : decode cX12_fits 43 = .ok (.iinc 3 1, 3) := by decide +kernel
theorem dX12_fits_46 : decode cX12_fits 46 = .ok (.goto (-32), 3) := by decide +kernel
theorem dX12_fits_49 : decode cX12_fits 49 = .ok (.aload_n 0, 1) := by decide +kernel
theorem dX12_fits_50 : decode cX12_fits 50 = .ok (.iconst 0, 1) := by decide +kernel
theorem dX12_fits_51 : decode cX12_fits 51 = .ok (.putfield 104, 3) := by decide +kernel
theorem dX12_fits_54 : decode cX12_fits 54 = .ok (.aload_n 0, 1) := by decide +kernel
theorem dX12_fits_55 : decode cX12_fits 55 = .ok (.iload_n 1, 1) := by decide +kernel
theorem dX12_fits_56 : decode cX12_fits 56 = .ok (.invokestatic 305, 3) := by decide +kernel
theorem dX12_fits_59 : decode cX12_fits 59 = .ok (.i2l, 1) := by decide +kernel
theorem dX12_fits_60 : decode cX12_fits 60 = .ok (.invokevirtual 333, 3) := by decide +kernel
theorem dX12_fits_63 : decode cX12_fits 63 = .ok (.aload_n 0, 1) := by decide +kernel
theorem dX12_fits_64 : decode cX12_fits 64 = .ok (.iload_n 2, 1) := by decide +kernel
theorem dX12_fits_65 : decode cX12_fits 65 = .ok (.i2l, 1) := by decide +kernel
theorem dX12_fits_66 : decode cX12_fits 66 = .ok (.invokevirtual 333, 3) := by decide +kernel
theorem dX12_fits_69 : decode cX12_fits 69 = .ok (.iload_n 1, 1) := by decide +kernel
theorem dX12_fits_70 : decode cX12_fits 70 = .ok (.ireturn, 1) := by decide +kernel
theorem dX12_ask_0 : decode cX12_ask 0 = .ok (.aload_n 0, 1) := by decide +kernel
theorem dX12_ask_1 : decode cX12_ask 1 = .ok (.iconst 0, 1) := by decide +kernel
theorem dX12_ask_2 : decode cX12_ask 2 = .ok (.putfield 97, 3) := by decide +kernel
theorem dX12_ask_5 : decode cX12_ask 5 = .ok (.aload_n 0, 1) := by decide +kernel
theorem dX12_ask_6 : decode cX12_ask 6 = .ok (.invokevirtual 417, 3) := by decide +kernel
theorem dX12_ask_9 : decode cX12_ask 9 = .ok (.istore_n 1, 1) := by decide +kernel
theorem dX12_ask_10 : decode cX12_ask 10 = .ok (.iload_n 1, 1) := by decide +kernel
theorem dX12_ask_11 : decode cX12_ask 11 = .ok (.ifCond .ne 6, 3) := by decide +kernel
theorem dX12_ask_14 : decode cX12_ask 14 = .ok (.bipush (-2), 2) := by decide +kernel
theorem dX12_ask_16 : decode cX12_ask 16 = .ok (.ireturn, 1) := by decide +kernel
theorem dX12_ask_17 : decode cX12_ask 17 = .ok (.iconst (-1), 1) := by decide +kernel
theorem dX12_ask_18 : decode cX12_ask 18 = .ok (.istore_n 2, 1) := by decide +kernel
theorem dX12_ask_19 : decode cX12_ask 19 = .ok (.ldc_w 380, 3) := by decide +kernel
theorem dX12_ask_22 : decode cX12_ask 22 = .ok (.istore_n 3, 1) := by decide +kernel
theorem dX12_ask_23 : decode cX12_ask 23 = .ok (.iconst 1, 1) := by decide +kernel
theorem dX12_ask_24 : decode cX12_ask 24 = .ok (.istore 4, 2) := by decide +kernel
theorem dX12_ask_26 : decode cX12_ask 26 = .ok (.iload 4, 2) := by decide +kernel
theorem dX12_ask_28 : decode cX12_ask 28 = .ok (.bipush 9, 2) := by decide +kernel
theorem dX12_ask_30 : decode cX12_ask 30 = .ok (.if_icmp .gt 98, 3) := by decide +kernel
theorem dX12_ask_33 : decode cX12_ask 33 = .ok (.iconst 0, 1) := by decide +kernel
theorem dX12_ask_34 : decode cX12_ask 34 = .ok (.istore 5, 2) := by decide +kernel
theorem dX12_ask_36 : decode cX12_ask 36 = .ok (.iconst 0, 1) := by decide +kernel
theorem dX12_ask_37 : decode cX12_ask 37 = .ok (.istore 6, 2) := by decide +kernel
theorem dX12_ask_39 : decode cX12_ask 39 = .ok (.iload 6, 2) := by decide +kernel
theorem dX12_ask_41 : decode cX12_ask 41 = .ok (.aload_n 0, 1) := by decide +kernel
theorem dX12_ask_42 : decode cX12_ask 42 = .ok (.getfield 111, 3) := by decide +kernel
theorem dX12_ask_45 : decode cX12_ask 45 = .ok (.if_icmp .ge 43, 3) := by decide +kernel
theorem dX12_ask_48 : decode cX12_ask 48 = .ok (.iload 5, 2) := by decide +kernel
theorem dX12_ask_50 : decode cX12_ask 50 = .ok (.iload_n 1, 1) := by decide +kernel
theorem dX12_ask_51 : decode cX12_ask 51 = .ok (.iload 6, 2) := by decide +kernel
theorem dX12_ask_53 : decode cX12_ask 53 = .ok (.invokestatic 114, 3) := by decide +kernel
theorem dX12_ask_56 : decode cX12_ask 56 = .ok (.ifCond .eq 19, 3) := by decide +kernel
theorem dX12_ask_59 : decode cX12_ask 59 = .ok (.aload_n 0, 1) := by decide +kernel
theorem dX12_ask_60 : decode cX12_ask 60 = .ok (.getfield 27, 3) := by decide +kernel
theorem dX12_ask_63 : decode cX12_ask 63 = .ok (.iload 6, 2) := by decide +kernel
theorem dX12_ask_65 : decode cX12_ask 65 = .ok (.iaload, 1) := by decide +kernel
theorem dX12_ask_66 : decode cX12_ask 66 = .ok (.iload 4, 2) := by decide +kernel
theorem dX12_ask_68 : decode cX12_ask 68 = .ok (.if_icmp .lt 7, 3) := by decide +kernel
theorem dX12_ask_71 : decode cX12_ask 71 = .ok (.iconst 1, 1) := by decide +kernel
theorem dX12_ask_72 : decode cX12_ask 72 = .ok (.goto 4, 3) := by decide +kernel
theorem dX12_ask_75 : decode cX12_ask 75 = .ok (.iconst 0, 1) := by decide +kernel
theorem dX12_ask_76 : decode cX12_ask 76 = .ok (.invokestatic 136, 3) := by decide +kernel
theorem dX12_ask_79 : decode cX12_ask 79 = .ok (.iadd, 1) := by decide +kernel
theorem dX12_ask_80 : decode cX12_ask 80 = .ok (.istore 5, 2) := by decide +kernel
theorem dX12_ask_82 : decode cX12_ask 82 = .ok (.iinc 6 1, 3) := by decide +kernel
theorem dX12_ask_85 : decode cX12_ask 85 = .ok (.goto (-46), 3) := by decide +kernel
theorem dX12_ask_88 : decode cX12_ask 88 = .ok (.iload 5, 2) := by decide +kernel
theorem dX12_ask_90 : decode cX12_ask 90 = .ok (.iload_n 1, 1) := by decide +kernel
theorem dX12_ask_91 : decode cX12_ask 91 = .ok (.invokestatic 305, 3) := by decide +kernel
theorem dX12_ask_94 : decode cX12_ask 94 = .ok (.iload 5, 2) := by decide +kernel
theorem dX12_ask_96 : decode cX12_ask 96 = .ok (.isub, 1) := by decide +kernel
theorem dX12_ask_97 : decode cX12_ask 97 = .ok (.invokestatic 244, 3) := by decide +kernel
theorem dX12_ask_100 : decode cX12_ask 100 = .ok (.istore 6, 2) := by decide +kernel
theorem dX12_ask_102 : decode cX12_ask 102 = .ok (.iload 6, 2) := by decide +kernel
theorem dX12_ask_104 : decode cX12_ask 104 = .ok (.iload_n 3, 1) := by decide +kernel
theorem dX12_ask_105 : decode cX12_ask 105 = .ok (.if_icmp .ge 8, 3) := by decide +kernel
theorem dX12_ask_108 : decode cX12_ask 108 = .ok (.iload 4, 2) := by decide +kernel
theorem dX12_ask_110 : decode cX12_ask 110 = .ok (.goto 4, 3) := by decide +kernel
theorem dX12_ask_113 : decode cX12_ask 113 = .ok (.iload_n 2, 1) := by decide +kernel
theorem dX12_ask_114 : decode cX12_ask 114 = .ok (.istore_n 2, 1) := by decide +kernel
theorem dX12_ask_115 : decode cX12_ask 115 = .ok (.iload_n 3, 1) := by decide +kernel
theorem dX12_ask_116 : decode cX12_ask 116 = .ok (.iload 6, 2) := by decide +kernel
theorem dX12_ask_118 : decode cX12_ask 118 = .ok (.invokestatic 127, 3) := by decide +kernel
theorem dX12_ask_121 : decode cX12_ask 121 = .ok (.istore_n 3, 1) := by decide +kernel
theorem dX12_ask_122 : decode cX12_ask 122 = .ok (.iinc 4 1, 3) := by decide +kernel
theorem dX12_ask_125 : decode cX12_ask 125 = .ok (.goto (-99), 3) := by decide +kernel
theorem dX12_ask_128 : decode cX12_ask 128 = .ok (.aload_n 0, 1) := by decide +kernel
theorem dX12_ask_129 : decode cX12_ask 129 = .ok (.iconst 0, 1) := by decide +kernel
theorem dX12_ask_130 : decode cX12_ask 130 = .ok (.putfield 104, 3) := by decide +kernel
theorem dX12_ask_133 : decode cX12_ask 133 = .ok (.aload_n 0, 1) := by decide +kernel
theorem dX12_ask_134 : decode cX12_ask 134 = .ok (.iload_n 3, 1) := by decide +kernel
theorem dX12_ask_135 : decode cX12_ask 135 = .ok (.i2l, 1) := by decide +kernel
theorem dX12_ask_136 : decode cX12_ask 136 = .ok (.invokevirtual 333, 3) := by decide +kernel
theorem dX12_ask_139 : decode cX12_ask 139 = .ok (.iload_n 2, 1) := by decide +kernel
theorem dX12_ask_140 : decode cX12_ask 140 = .ok (.ireturn, 1) := by decide +kernel
theorem dX12_law_0 : decode cX12_law 0 = .ok (.aload_n 0, 1) := by decide +kernel
theorem dX12_law_1 : decode cX12_law 1 = .ok (.iconst 0, 1) := by decide +kernel
theorem dX12_law_2 : decode cX12_law 2 = .ok (.putfield 97, 3) := by decide +kernel
theorem dX12_law_5 : decode cX12_law 5 = .ok (.aload_n 0, 1) := by decide +kernel
theorem dX12_law_6 : decode cX12_law 6 = .ok (.invokevirtual 230, 3) := by decide +kernel
theorem dX12_law_9 : decode cX12_law 9 = .ok (.istore_n 1, 1) := by decide +kernel
theorem dX12_law_10 : decode cX12_law 10 = .ok (.iload_n 1, 1) := by decide +kernel
theorem dX12_law_11 : decode cX12_law 11 = .ok (.ifCond .ge 11, 3) := by decide +kernel
theorem dX12_law_14 : decode cX12_law 14 = .ok (.iload_n 1, 1) := by decide +kernel
theorem dX12_law_15 : decode cX12_law 15 = .ok (.iconst 1, 1) := by decide +kernel
theorem dX12_law_16 : decode cX12_law 16 = .ok (.iadd, 1) := by decide +kernel
theorem dX12_law_17 : decode cX12_law 17 = .ok (.sipush 10000, 3) := by decide +kernel
theorem dX12_law_20 : decode cX12_law 20 = .ok (.isub, 1) := by decide +kernel
theorem dX12_law_21 : decode cX12_law 21 = .ok (.ireturn, 1) := by decide +kernel
theorem dX12_law_22 : decode cX12_law 22 = .ok (.aload_n 0, 1) := by decide +kernel
theorem dX12_law_23 : decode cX12_law 23 = .ok (.invokevirtual 356, 3) := by decide +kernel
theorem dX12_law_26 : decode cX12_law 26 = .ok (.aload_n 0, 1) := by decide +kernel
theorem dX12_law_27 : decode cX12_law 27 = .ok (.bipush 10, 2) := by decide +kernel
theorem dX12_law_29 : decode cX12_law 29 = .ok (.invokevirtual 383, 3) := by decide +kernel
theorem dX12_law_32 : decode cX12_law 32 = .ok (.istore_n 2, 1) := by decide +kernel
theorem dX12_law_33 : decode cX12_law 33 = .ok (.aload_n 0, 1) := by decide +kernel
theorem dX12_law_34 : decode cX12_law 34 = .ok (.getfield 227, 3) := by decide +kernel
theorem dX12_law_37 : decode cX12_law 37 = .ok (.istore_n 3, 1) := by decide +kernel
theorem dX12_law_38 : decode cX12_law 38 = .ok (.iconst 0, 1) := by decide +kernel
theorem dX12_law_39 : decode cX12_law 39 = .ok (.istore 4, 2) := by decide +kernel
theorem dX12_law_41 : decode cX12_law 41 = .ok (.iload 4, 2) := by decide +kernel
theorem dX12_law_43 : decode cX12_law 43 = .ok (.aload_n 0, 1) := by decide +kernel
theorem dX12_law_44 : decode cX12_law 44 = .ok (.getfield 227, 3) := by decide +kernel
theorem dX12_law_47 : decode cX12_law 47 = .ok (.if_icmp .ge 23, 3) := by decide +kernel
theorem dX12_law_50 : decode cX12_law 50 = .ok (.aload_n 0, 1) := by decide +kernel
theorem dX12_law_51 : decode cX12_law 51 = .ok (.getfield 87, 3) := by decide +kernel
theorem dX12_law_54 : decode cX12_law 54 = .ok (.iload 4, 2) := by decide +kernel
theorem dX12_law_56 : decode cX12_law 56 = .ok (.aload_n 0, 1) := by decide +kernel
theorem dX12_law_57 : decode cX12_law 57 = .ok (.getfield 48, 3) := by decide +kernel
theorem dX12_law_60 : decode cX12_law 60 = .ok (.iload 4, 2) := by decide +kernel
theorem dX12_law_62 : decode cX12_law 62 = .ok (.iaload, 1) := by decide +kernel
theorem dX12_law_63 : decode cX12_law 63 = .ok (.iastore, 1) := by decide +kernel
theorem dX12_law_64 : decode cX12_law 64 = .ok (.iinc 4 1, 3) := by decide +kernel
theorem dX12_law_67 : decode cX12_law 67 = .ok (.goto (-26), 3) := by decide +kernel
theorem dX12_law_70 : decode cX12_law 70 = .ok (.aload_n 0, 1) := by decide +kernel
theorem dX12_law_71 : decode cX12_law 71 = .ok (.aload_n 0, 1) := by decide +kernel
theorem dX12_law_72 : decode cX12_law 72 = .ok (.getfield 51, 3) := by decide +kernel
theorem dX12_law_75 : decode cX12_law 75 = .ok (.aload_n 0, 1) := by decide +kernel
theorem dX12_law_76 : decode cX12_law 76 = .ok (.getfield 206, 3) := by decide +kernel
theorem dX12_law_79 : decode cX12_law 79 = .ok (.invokevirtual 233, 3) := by decide +kernel
theorem dX12_law_82 : decode cX12_law 82 = .ok (.aload_n 0, 1) := by decide +kernel
theorem dX12_law_83 : decode cX12_law 83 = .ok (.invokevirtual 356, 3) := by decide +kernel
theorem dX12_law_86 : decode cX12_law 86 = .ok (.aload_n 0, 1) := by decide +kernel
theorem dX12_law_87 : decode cX12_law 87 = .ok (.bipush 10, 2) := by decide +kernel
theorem dX12_law_89 : decode cX12_law 89 = .ok (.invokevirtual 383, 3) := by decide +kernel
theorem dX12_law_92 : decode cX12_law 92 = .ok (.istore 4, 2) := by decide +kernel
theorem dX12_law_94 : decode cX12_law 94 = .ok (.aload_n 0, 1) := by decide +kernel
theorem dX12_law_95 : decode cX12_law 95 = .ok (.aload_n 0, 1) := by decide +kernel
theorem dX12_law_96 : decode cX12_law 96 = .ok (.getfield 87, 3) := by decide +kernel
theorem dX12_law_99 : decode cX12_law 99 = .ok (.iload_n 3, 1) := by decide +kernel
theorem dX12_law_100 : decode cX12_law 100 = .ok (.invokevirtual 233, 3) := by decide +kernel
theorem dX12_law_103 : decode cX12_law 103 = .ok (.aload_n 0, 1) := by decide +kernel
theorem dX12_law_104 : decode cX12_law 104 = .ok (.iconst 0, 1) := by decide +kernel
theorem dX12_law_105 : decode cX12_law 105 = .ok (.putfield 104, 3) := by decide +kernel
theorem dX12_law_108 : decode cX12_law 108 = .ok (.aload_n 0, 1) := by decide +kernel
theorem dX12_law_109 : decode cX12_law 109 = .ok (.iload 4, 2) := by decide +kernel
theorem dX12_law_111 : decode cX12_law 111 = .ok (.i2l, 1) := by decide +kernel
theorem dX12_law_112 : decode cX12_law 112 = .ok (.invokevirtual 333, 3) := by decide +kernel
theorem dX12_law_115 : decode cX12_law 115 = .ok (.aload_n 0, 1) := by decide +kernel
theorem dX12_law_116 : decode cX12_law 116 = .ok (.iload_n 2, 1) := by decide +kernel
theorem dX12_law_117 : decode cX12_law 117 = .ok (.i2l, 1) := by decide +kernel
theorem dX12_law_118 : decode cX12_law 118 = .ok (.invokevirtual 333, 3) := by decide +kernel
theorem dX12_law_121 : decode cX12_law 121 = .ok (.iload 4, 2) := by decide +kernel
theorem dX12_law_123 : decode cX12_law 123 = .ok (.iload_n 2, 1) := by decide +kernel
theorem dX12_law_124 : decode cX12_law 124 = .ok (.isub, 1) := by decide +kernel
theorem dX12_law_125 : decode cX12_law 125 = .ok (.ireturn, 1) := by decide +kernel
theorem dX12_guardHas_0 : decode cX12_guardHas 0 = .ok (.iload_n 1, 1) := by decide +kernel
theorem dX12_guardHas_1 : decode cX12_guardHas 1 = .ok (.iload_n 0, 1) := by decide +kernel
theorem dX12_guardHas_2 : decode cX12_guardHas 2 = .ok (.if_icmp .lt 7, 3) := by decide +kernel
theorem dX12_guardHas_5 : decode cX12_guardHas 5 = .ok (.iload_n 1, 1) := by decide +kernel
theorem dX12_guardHas_6 : decode cX12_guardHas 6 = .ok (.goto 4, 3) := by decide +kernel
theorem dX12_guardHas_9 : decode cX12_guardHas 9 = .ok (.iload_n 2, 1) := by decide +kernel
theorem dX12_guardHas_10 : decode cX12_guardHas 10 = .ok (.ireturn, 1) := by decide +kernel
theorem dX12_otherHas_0 : decode cX12_otherHas 0 = .ok (.iload_n 1, 1) := by decide +kernel
theorem dX12_otherHas_1 : decode cX12_otherHas 1 = .ok (.iload_n 0, 1) := by decide +kernel
theorem dX12_otherHas_2 : decode cX12_otherHas 2 = .ok (.if_icmp .lt 9, 3) := by decide +kernel
theorem dX12_otherHas_5 : decode cX12_otherHas 5 = .ok (.iload_n 2, 1) := by decide +kernel
theorem dX12_otherHas_6 : decode cX12_otherHas 6 = .ok (.iload_n 1, 1) := by decide +kernel
theorem dX12_otherHas_7 : decode cX12_otherHas 7 = .ok (.isub, 1) := by decide +kernel
theorem dX12_otherHas_8 : decode cX12_otherHas 8 = .ok (.goto 4, 3) := by decide +kernel
theorem dX12_otherHas_11 : decode cX12_otherHas 11 = .ok (.iconst 0, 1) := by decide +kernel
theorem dX12_otherHas_12 : decode cX12_otherHas 12 = .ok (.ireturn, 1) := by decide +kernel
theorem dX12_isRest_0 : decode cX12_isRest 0 = .ok (.iconst 1, 1) := by decide +kernel
theorem dX12_isRest_1 : decode cX12_isRest 1 = .ok (.istore 4, 2) := by decide +kernel
theorem dX12_isRest_3 : decode cX12_isRest 3 = .ok (.iconst 0, 1) := by decide +kernel
theorem dX12_isRest_4 : decode cX12_isRest 4 = .ok (.istore 5, 2) := by decide +kernel
theorem dX12_isRest_6 : decode cX12_isRest 6 = .ok (.iload 5, 2) := by decide +kernel
theorem dX12_isRest_8 : decode cX12_isRest 8 = .ok (.bipush 9, 2) := by decide +kernel
theorem dX12_isRest_10 : decode cX12_isRest 10 = .ok (.if_icmp .gt 53, 3) := by decide +kernel
theorem dX12_isRest_13 : decode cX12_isRest 13 = .ok (.iload 4, 2) := by decide +kernel
theorem dX12_isRest_15 : decode cX12_isRest 15 = .ok (.ifCond .eq 39, 3) := by decide +kernel
theorem dX12_isRest_18 : decode cX12_isRest 18 = .ok (.iload 5, 2) := by decide +kernel
theorem dX12_isRest_20 : decode cX12_isRest 20 = .ok (.iload_n 1, 1) := by decide +kernel
theorem dX12_isRest_21 : decode cX12_isRest 21 = .ok (.iload_n 3, 1) := by decide +kernel
theorem dX12_isRest_22 : decode cX12_isRest 22 = .ok (.invokestatic 420, 3) := by decide +kernel
theorem dX12_isRest_25 : decode cX12_isRest 25 = .ok (.iload_n 0, 1) := by decide +kernel
theorem dX12_isRest_26 : decode cX12_isRest 26 = .ok (.iload_n 1, 1) := by decide +kernel
theorem dX12_isRest_27 : decode cX12_isRest 27 = .ok (.iload_n 3, 1) := by decide +kernel
theorem dX12_isRest_28 : decode cX12_isRest 28 = .ok (.invokestatic 420, 3) := by decide +kernel
theorem dX12_isRest_31 : decode cX12_isRest 31 = .ok (.if_icmp .gt 23, 3) := by decide +kernel
theorem dX12_isRest_34 : decode cX12_isRest 34 = .ok (.iload_n 0, 1) := by decide +kernel
theorem dX12_isRest_35 : decode cX12_isRest 35 = .ok (.iload 5, 2) := by decide +kernel
theorem dX12_isRest_37 : decode cX12_isRest 37 = .ok (.iload_n 2, 1) := by decide +kernel
theorem dX12_isRest_38 : decode cX12_isRest 38 = .ok (.invokestatic 423, 3) := by decide +kernel
theorem dX12_isRest_41 : decode cX12_isRest 41 = .ok (.iload_n 0, 1) := by decide +kernel
theorem dX12_isRest_42 : decode cX12_isRest 42 = .ok (.iload_n 1, 1) := by decide +kernel
theorem dX12_isRest_43 : decode cX12_isRest 43 = .ok (.iload_n 2, 1) := by decide +kernel
theorem dX12_isRest_44 : decode cX12_isRest 44 = .ok (.invokestatic 423, 3) := by decide +kernel
theorem dX12_isRest_47 : decode cX12_isRest 47 = .ok (.if_icmp .gt 7, 3) := by decide +kernel
theorem dX12_isRest_50 : decode cX12_isRest 50 = .ok (.iconst 1, 1) := by decide +kernel
theorem dX12_isRest_51 : decode cX12_isRest 51 = .ok (.goto 4, 3) := by decide +kernel
theorem dX12_isRest_54 : decode cX12_isRest 54 = .ok (.iconst 0, 1) := by decide +kernel
theorem dX12_isRest_55 : decode cX12_isRest 55 = .ok (.istore 4, 2) := by decide +kernel
theorem dX12_isRest_57 : decode cX12_isRest 57 = .ok (.iinc 5 1, 3) := by decide +kernel
theorem dX12_isRest_60 : decode cX12_isRest 60 = .ok (.goto (-54), 3) := by decide +kernel
theorem dX12_isRest_63 : decode cX12_isRest 63 = .ok (.iload 4, 2) := by decide +kernel
theorem dX12_isRest_65 : decode cX12_isRest 65 = .ok (.ireturn, 1) := by decide +kernel
theorem dX12_rests_0 : decode cX12_rests 0 = .ok (.aload_n 0, 1) := by decide +kernel
theorem dX12_rests_1 : decode cX12_rests 1 = .ok (.iconst 0, 1) := by decide +kernel
theorem dX12_rests_2 : decode cX12_rests 2 = .ok (.putfield 97, 3) := by decide +kernel
theorem dX12_rests_5 : decode cX12_rests 5 = .ok (.iload_n 1, 1) := by decide +kernel
theorem dX12_rests_6 : decode cX12_rests 6 = .ok (.i2l, 1) := by decide +kernel
theorem dX12_rests_7 : decode cX12_rests 7 = .ok (.lconst 0, 1) := by decide +kernel
theorem dX12_rests_8 : decode cX12_rests 8 = .ok (.ldc2_w 381, 3) := by decide +kernel
theorem dX12_rests_11 : decode cX12_rests 11 = .ok (.invokestatic 107, 3) := by decide +kernel
theorem dX12_rests_14 : decode cX12_rests 14 = .ok (.ifCond .eq 15, 3) := by decide +kernel
theorem dX12_rests_17 : decode cX12_rests 17 = .ok (.iload_n 2, 1) := by decide +kernel
theorem dX12_rests_18 : decode cX12_rests 18 = .ok (.i2l, 1) := by decide +kernel
theorem dX12_rests_19 : decode cX12_rests 19 = .ok (.lconst 0, 1) := by decide +kernel
theorem dX12_rests_20 : decode cX12_rests 20 = .ok (.ldc2_w 303, 3) := by decide +kernel
theorem dX12_rests_23 : decode cX12_rests 23 = .ok (.invokestatic 107, 3) := by decide +kernel
theorem dX12_rests_26 : decode cX12_rests 26 = .ok (.ifCond .ne 5, 3) := by decide +kernel
theorem dX12_rests_29 : decode cX12_rests 29 = .ok (.iconst (-1), 1) := by decide +kernel
theorem dX12_rests_30 : decode cX12_rests 30 = .ok (.ireturn, 1) := by decide +kernel
theorem dX12_rests_31 : decode cX12_rests 31 = .ok (.iconst 0, 1) := by decide +kernel
theorem dX12_rests_32 : decode cX12_rests 32 = .ok (.istore_n 3, 1) := by decide +kernel
theorem dX12_rests_33 : decode cX12_rests 33 = .ok (.aload_n 0, 1) := by decide +kernel
theorem dX12_rests_34 : decode cX12_rests 34 = .ok (.iconst 0, 1) := by decide +kernel
theorem dX12_rests_35 : decode cX12_rests 35 = .ok (.putfield 104, 3) := by decide +kernel
theorem dX12_rests_38 : decode cX12_rests 38 = .ok (.iconst 0, 1) := by decide +kernel
theorem dX12_rests_39 : decode cX12_rests 39 = .ok (.istore 4, 2) := by decide +kernel
theorem dX12_rests_41 : decode cX12_rests 41 = .ok (.iload 4, 2) := by decide +kernel
theorem dX12_rests_43 : decode cX12_rests 43 = .ok (.bipush 9, 2) := by decide +kernel
theorem dX12_rests_45 : decode cX12_rests 45 = .ok (.if_icmp .gt 58, 3) := by decide +kernel
theorem dX12_rests_48 : decode cX12_rests 48 = .ok (.iconst 0, 1) := by decide +kernel
theorem dX12_rests_49 : decode cX12_rests 49 = .ok (.istore 5, 2) := by decide +kernel
theorem dX12_rests_51 : decode cX12_rests 51 = .ok (.iload 5, 2) := by decide +kernel
theorem dX12_rests_53 : decode cX12_rests 53 = .ok (.bipush 9, 2) := by decide +kernel
theorem dX12_rests_55 : decode cX12_rests 55 = .ok (.if_icmp .gt 42, 3) := by decide +kernel
theorem dX12_rests_58 : decode cX12_rests 58 = .ok (.iload 4, 2) := by decide +kernel
theorem dX12_rests_60 : decode cX12_rests 60 = .ok (.iload 5, 2) := by decide +kernel
theorem dX12_rests_62 : decode cX12_rests 62 = .ok (.iload_n 1, 1) := by decide +kernel
theorem dX12_rests_63 : decode cX12_rests 63 = .ok (.iload_n 2, 1) := by decide +kernel
theorem dX12_rests_64 : decode cX12_rests 64 = .ok (.invokestatic 426, 3) := by decide +kernel
theorem dX12_rests_67 : decode cX12_rests 67 = .ok (.ifCond .eq 24, 3) := by decide +kernel
theorem dX12_rests_70 : decode cX12_rests 70 = .ok (.iload_n 3, 1) := by decide +kernel
theorem dX12_rests_71 : decode cX12_rests 71 = .ok (.ifCond .ne 17, 3) := by decide +kernel
theorem dX12_rests_74 : decode cX12_rests 74 = .ok (.aload_n 0, 1) := by decide +kernel
theorem dX12_rests_75 : decode cX12_rests 75 = .ok (.iload 4, 2) := by decide +kernel
theorem dX12_rests_77 : decode cX12_rests 77 = .ok (.i2l, 1) := by decide +kernel
theorem dX12_rests_78 : decode cX12_rests 78 = .ok (.invokevirtual 333, 3) := by decide +kernel
theorem dX12_rests_81 : decode cX12_rests 81 = .ok (.aload_n 0, 1) := by decide +kernel
theorem dX12_rests_82 : decode cX12_rests 82 = .ok (.iload 5, 2) := by decide +kernel
theorem dX12_rests_84 : decode cX12_rests 84 = .ok (.i2l, 1) := by decide +kernel
theorem dX12_rests_85 : decode cX12_rests 85 = .ok (.invokevirtual 333, 3) := by decide +kernel
theorem dX12_rests_88 : decode cX12_rests 88 = .ok (.iinc 3 1, 3) := by decide +kernel
theorem dX12_rests_91 : decode cX12_rests 91 = .ok (.iinc 5 1, 3) := by decide +kernel
theorem dX12_rests_94 : decode cX12_rests 94 = .ok (.goto (-43), 3) := by decide +kernel
theorem dX12_rests_97 : decode cX12_rests 97 = .ok (.iinc 4 1, 3) := by decide +kernel
theorem dX12_rests_100 : decode cX12_rests 100 = .ok (.goto (-59), 3) := by decide +kernel
theorem dX12_rests_103 : decode cX12_rests 103 = .ok (.iload_n 3, 1) := by decide +kernel
theorem dX12_rests_104 : decode cX12_rests 104 = .ok (.ireturn, 1) := by decide +kernel
theorem dX12_draws_0 : decode cX12_draws 0 = .ok (.aload_n 0, 1) := by decide +kernel
theorem dX12_draws_1 : decode cX12_draws 1 = .ok (.aload_n 0, 1) := by decide +kernel
theorem dX12_draws_2 : decode cX12_draws 2 = .ok (.getfield 430, 3) := by decide +kernel
theorem dX12_draws_5 : decode cX12_draws 5 = .ok (.ldc_w 433, 3) := by decide +kernel
theorem dX12_draws_8 : decode cX12_draws 8 = .ok (.imul, 1) := by decide +kernel
theorem dX12_draws_9 : decode cX12_draws 9 = .ok (.sipush 12345, 3) := by decide +kernel
theorem dX12_draws_12 : decode cX12_draws 12 = .ok (.iadd, 1) := by decide +kernel
theorem dX12_draws_13 : decode cX12_draws 13 = .ok (.putfield 430, 3) := by decide +kernel
theorem dX12_draws_16 : decode cX12_draws 16 = .ok (.aload_n 0, 1) := by decide +kernel
theorem dX12_draws_17 : decode cX12_draws 17 = .ok (.getfield 430, 3) := by decide +kernel
theorem dX12_draws_20 : decode cX12_draws 20 = .ok (.bipush 16, 2) := by decide +kernel
theorem dX12_draws_22 : decode cX12_draws 22 = .ok (.iushr, 1) := by decide +kernel
theorem dX12_draws_23 : decode cX12_draws 23 = .ok (.iload_n 1, 1) := by decide +kernel
theorem dX12_draws_24 : decode cX12_draws 24 = .ok (.irem, 1) := by decide +kernel
theorem dX12_draws_25 : decode cX12_draws 25 = .ok (.ireturn, 1) := by decide +kernel
theorem dX12_years_0 : decode cX12_years 0 = .ok (.aload_n 0, 1) := by decide +kernel
theorem dX12_years_1 : decode cX12_years 1 = .ok (.iconst 0, 1) := by decide +kernel
theorem dX12_years_2 : decode cX12_years 2 = .ok (.putfield 97, 3) := by decide +kernel
theorem dX12_years_5 : decode cX12_years 5 = .ok (.iload_n 2, 1) := by decide +kernel
theorem dX12_years_6 : decode cX12_years 6 = .ok (.i2l, 1) := by decide +kernel
theorem dX12_years_7 : decode cX12_years 7 = .ok (.lconst 1, 1) := by decide +kernel
theorem dX12_years_8 : decode cX12_years 8 = .ok (.ldc2_w 328, 3) := by decide +kernel
theorem dX12_years_11 : decode cX12_years 11 = .ok (.invokestatic 107, 3) := by decide +kernel
theorem dX12_years_14 : decode cX12_years 14 = .ok (.ifCond .ne 5, 3) := by decide +kernel
theorem dX12_years_17 : decode cX12_years 17 = .ok (.iconst (-1), 1) := by decide +kernel
theorem dX12_years_18 : decode cX12_years 18 = .ok (.ireturn, 1) := by decide +kernel
theorem dX12_years_19 : decode cX12_years 19 = .ok (.aload_n 0, 1) := by decide +kernel
theorem dX12_years_20 : decode cX12_years 20 = .ok (.iload_n 1, 1) := by decide +kernel
theorem dX12_years_21 : decode cX12_years 21 = .ok (.putfield 430, 3) := by decide +kernel
theorem dX12_years_24 : decode cX12_years 24 = .ok (.aload_n 0, 1) := by decide +kernel
theorem dX12_years_25 : decode cX12_years 25 = .ok (.invokevirtual 356, 3) := by decide +kernel
theorem dX12_years_28 : decode cX12_years 28 = .ok (.iconst 0, 1) := by decide +kernel
theorem dX12_years_29 : decode cX12_years 29 = .ok (.istore_n 3, 1) := by decide +kernel
theorem dX12_years_30 : decode cX12_years 30 = .ok (.iload_n 3, 1) := by decide +kernel
theorem dX12_years_31 : decode cX12_years 31 = .ok (.iload_n 2, 1) := by decide +kernel
theorem dX12_years_32 : decode cX12_years 32 = .ok (.if_icmp .ge 149, 3) := by decide +kernel
theorem dX12_years_35 : decode cX12_years 35 = .ok (.aload_n 0, 1) := by decide +kernel
theorem dX12_years_36 : decode cX12_years 36 = .ok (.iconst 5, 1) := by decide +kernel
theorem dX12_years_37 : decode cX12_years 37 = .ok (.invokevirtual 434, 3) := by decide +kernel
theorem dX12_years_40 : decode cX12_years 40 = .ok (.istore 4, 2) := by decide +kernel
theorem dX12_years_42 : decode cX12_years 42 = .ok (.iload 4, 2) := by decide +kernel
theorem dX12_years_44 : decode cX12_years 44 = .ok (.iconst 2, 1) := by decide +kernel
theorem dX12_years_45 : decode cX12_years 45 = .ok (.if_icmp .ge 15, 3) := by decide +kernel
theorem dX12_years_48 : decode cX12_years 48 = .ok (.aload_n 0, 1) := by decide +kernel
theorem dX12_years_49 : decode cX12_years 49 = .ok (.aload_n 0, 1) := by decide +kernel
theorem dX12_years_50 : decode cX12_years 50 = .ok (.getfield 39, 3) := by decide +kernel
theorem dX12_years_53 : decode cX12_years 53 = .ok (.invokevirtual 298, 3) := by decide +kernel
theorem dX12_years_56 : decode cX12_years 56 = .ok (.pop, 1) := by decide +kernel
theorem dX12_years_57 : decode cX12_years 57 = .ok (.goto 118, 3) := by decide +kernel
theorem dX12_years_60 : decode cX12_years 60 = .ok (.aload_n 0, 1) := by decide +kernel
theorem dX12_years_61 : decode cX12_years 61 = .ok (.aload_n 0, 1) := by decide +kernel
theorem dX12_years_62 : decode cX12_years 62 = .ok (.getfield 13, 3) := by decide +kernel
theorem dX12_years_65 : decode cX12_years 65 = .ok (.invokevirtual 434, 3) := by decide +kernel
theorem dX12_years_68 : decode cX12_years 68 = .ok (.istore 5, 2) := by decide +kernel
theorem dX12_years_70 : decode cX12_years 70 = .ok (.iload 4, 2) := by decide +kernel
theorem dX12_years_72 : decode cX12_years 72 = .ok (.iconst 2, 1) := by decide +kernel
theorem dX12_years_73 : decode cX12_years 73 = .ok (.if_icmp .ne 7, 3) := by decide +kernel
theorem dX12_years_76 : decode cX12_years 76 = .ok (.iconst 1, 1) := by decide +kernel
theorem dX12_years_77 : decode cX12_years 77 = .ok (.goto 14, 3) := by decide +kernel
theorem dX12_years_80 : decode cX12_years 80 = .ok (.iload 4, 2) := by decide +kernel
theorem dX12_years_82 : decode cX12_years 82 = .ok (.iconst 3, 1) := by decide +kernel
theorem dX12_years_83 : decode cX12_years 83 = .ok (.if_icmp .ne 7, 3) := by decide +kernel
theorem dX12_years_86 : decode cX12_years 86 = .ok (.iconst (-1), 1) := by decide +kernel
theorem dX12_years_87 : decode cX12_years 87 = .ok (.goto 4, 3) := by decide +kernel
theorem dX12_years_90 : decode cX12_years 90 = .ok (.iconst 0, 1) := by decide +kernel
theorem dX12_years_91 : decode cX12_years 91 = .ok (.istore 6, 2) := by decide +kernel
theorem dX12_years_93 : decode cX12_years 93 = .ok (.aload_n 0, 1) := by decide +kernel
theorem dX12_years_94 : decode cX12_years 94 = .ok (.getfield 39, 3) := by decide +kernel
theorem dX12_years_97 : decode cX12_years 97 = .ok (.bipush 12, 2) := by decide +kernel
theorem dX12_years_99 : decode cX12_years 99 = .ok (.iload 5, 2) := by decide +kernel
theorem dX12_years_101 : decode cX12_years 101 = .ok (.iadd, 1) := by decide +kernel
theorem dX12_years_102 : decode cX12_years 102 = .ok (.iconst 0, 1) := by decide +kernel
theorem dX12_years_103 : decode cX12_years 103 = .ok (.bipush 9, 2) := by decide +kernel
theorem dX12_years_105 : decode cX12_years 105 = .ok (.aload_n 0, 1) := by decide +kernel
theorem dX12_years_106 : decode cX12_years 106 = .ok (.getfield 39, 3) := by decide +kernel
theorem dX12_years_109 : decode cX12_years 109 = .ok (.bipush 12, 2) := by decide +kernel
theorem dX12_years_111 : decode cX12_years 111 = .ok (.iload 5, 2) := by decide +kernel
theorem dX12_years_113 : decode cX12_years 113 = .ok (.iadd, 1) := by decide +kernel
theorem dX12_years_114 : decode cX12_years 114 = .ok (.iaload, 1) := by decide +kernel
theorem dX12_years_115 : decode cX12_years 115 = .ok (.iload 6, 2) := by decide +kernel
theorem dX12_years_117 : decode cX12_years 117 = .ok (.iadd, 1) := by decide +kernel
theorem dX12_years_118 : decode cX12_years 118 = .ok (.invokestatic 127, 3) := by decide +kernel
theorem dX12_years_121 : decode cX12_years 121 = .ok (.invokestatic 244, 3) := by decide +kernel
theorem dX12_years_124 : decode cX12_years 124 = .ok (.iastore, 1) := by decide +kernel
theorem dX12_years_125 : decode cX12_years 125 = .ok (.aload_n 0, 1) := by decide +kernel
theorem dX12_years_126 : decode cX12_years 126 = .ok (.getfield 39, 3) := by decide +kernel
theorem dX12_years_129 : decode cX12_years 129 = .ok (.iload 5, 2) := by decide +kernel
theorem dX12_years_131 : decode cX12_years 131 = .ok (.iload 4, 2) := by decide +kernel
theorem dX12_years_133 : decode cX12_years 133 = .ok (.iconst 4, 1) := by decide +kernel
theorem dX12_years_134 : decode cX12_years 134 = .ok (.if_icmp .ne 33, 3) := by decide +kernel
theorem dX12_years_137 : decode cX12_years 137 = .ok (.aload_n 0, 1) := by decide +kernel
theorem dX12_years_138 : decode cX12_years 138 = .ok (.aload_n 0, 1) := by decide +kernel
theorem dX12_years_139 : decode cX12_years 139 = .ok (.getfield 39, 3) := by decide +kernel
theorem dX12_years_142 : decode cX12_years 142 = .ok (.iload 5, 2) := by decide +kernel
theorem dX12_years_144 : decode cX12_years 144 = .ok (.invokevirtual 247, 3) := by decide +kernel
theorem dX12_years_147 : decode cX12_years 147 = .ok (.ifCond .ne 20, 3) := by decide +kernel
theorem dX12_years_150 : decode cX12_years 150 = .ok (.bipush 9, 2) := by decide +kernel
theorem dX12_years_152 : decode cX12_years 152 = .ok (.aload_n 0, 1) := by decide +kernel
theorem dX12_years_153 : decode cX12_years 153 = .ok (.getfield 39, 3) := by decide +kernel
theorem dX12_years_156 : decode cX12_years 156 = .ok (.iload 5, 2) := by decide +kernel
theorem dX12_years_158 : decode cX12_years 158 = .ok (.iaload, 1) := by decide +kernel
theorem dX12_years_159 : decode cX12_years 159 = .ok (.iconst 2, 1) := by decide +kernel
theorem dX12_years_160 : decode cX12_years 160 = .ok (.iadd, 1) := by decide +kernel
theorem dX12_years_161 : decode cX12_years 161 = .ok (.invokestatic 127, 3) := by decide +kernel
theorem dX12_years_164 : decode cX12_years 164 = .ok (.goto 10, 3) := by decide +kernel
theorem dX12_years_167 : decode cX12_years 167 = .ok (.aload_n 0, 1) := by decide +kernel
theorem dX12_years_168 : decode cX12_years 168 = .ok (.getfield 39, 3) := by decide +kernel
theorem dX12_years_171 : decode cX12_years 171 = .ok (.iload 5, 2) := by decide +kernel
theorem dX12_years_173 : decode cX12_years 173 = .ok (.iaload, 1) := by decide +kernel
theorem dX12_years_174 : decode cX12_years 174 = .ok (.iastore, 1) := by decide +kernel
theorem dX12_years_175 : decode cX12_years 175 = .ok (.iinc 3 1, 3) := by decide +kernel
theorem dX12_years_178 : decode cX12_years 178 = .ok (.goto (-148), 3) := by decide +kernel
theorem dX12_years_181 : decode cX12_years 181 = .ok (.aload_n 0, 1) := by decide +kernel
theorem dX12_years_182 : decode cX12_years 182 = .ok (.iconst 0, 1) := by decide +kernel
theorem dX12_years_183 : decode cX12_years 183 = .ok (.putfield 104, 3) := by decide +kernel
theorem dX12_years_186 : decode cX12_years 186 = .ok (.aload_n 0, 1) := by decide +kernel
theorem dX12_years_187 : decode cX12_years 187 = .ok (.aload_n 0, 1) := by decide +kernel
theorem dX12_years_188 : decode cX12_years 188 = .ok (.aload_n 0, 1) := by decide +kernel
theorem dX12_years_189 : decode cX12_years 189 = .ok (.getfield 39, 3) := by decide +kernel
theorem dX12_years_192 : decode cX12_years 192 = .ok (.invokevirtual 337, 3) := by decide +kernel
theorem dX12_years_195 : decode cX12_years 195 = .ok (.i2l, 1) := by decide +kernel
theorem dX12_years_196 : decode cX12_years 196 = .ok (.invokevirtual 333, 3) := by decide +kernel
theorem dX12_years_199 : decode cX12_years 199 = .ok (.aload_n 0, 1) := by decide +kernel
theorem dX12_years_200 : decode cX12_years 200 = .ok (.aload_n 0, 1) := by decide +kernel
theorem dX12_years_201 : decode cX12_years 201 = .ok (.aload_n 0, 1) := by decide +kernel
theorem dX12_years_202 : decode cX12_years 202 = .ok (.getfield 39, 3) := by decide +kernel
theorem dX12_years_205 : decode cX12_years 205 = .ok (.invokevirtual 259, 3) := by decide +kernel
theorem dX12_years_208 : decode cX12_years 208 = .ok (.i2l, 1) := by decide +kernel
theorem dX12_years_209 : decode cX12_years 209 = .ok (.invokevirtual 333, 3) := by decide +kernel
theorem dX12_years_212 : decode cX12_years 212 = .ok (.aload_n 0, 1) := by decide +kernel
theorem dX12_years_213 : decode cX12_years 213 = .ok (.getfield 39, 3) := by decide +kernel
theorem dX12_years_216 : decode cX12_years 216 = .ok (.bipush 28, 2) := by decide +kernel
theorem dX12_years_218 : decode cX12_years 218 = .ok (.iaload, 1) := by decide +kernel
theorem dX12_years_219 : decode cX12_years 219 = .ok (.aload_n 0, 1) := by decide +kernel
theorem dX12_years_220 : decode cX12_years 220 = .ok (.getfield 36, 3) := by decide +kernel
theorem dX12_years_223 : decode cX12_years 223 = .ok (.bipush 28, 2) := by decide +kernel
theorem dX12_years_225 : decode cX12_years 225 = .ok (.iaload, 1) := by decide +kernel
theorem dX12_years_226 : decode cX12_years 226 = .ok (.isub, 1) := by decide +kernel
theorem dX12_years_227 : decode cX12_years 227 = .ok (.ireturn, 1) := by decide +kernel
theorem dX12_keep_0 : decode cX12_keep 0 = .ok (.aload_n 0, 1) := by decide +kernel
theorem dX12_keep_1 : decode cX12_keep 1 = .ok (.iconst 0, 1) := by decide +kernel
theorem dX12_keep_2 : decode cX12_keep 2 = .ok (.putfield 97, 3) := by decide +kernel
theorem dX12_keep_5 : decode cX12_keep 5 = .ok (.iload_n 1, 1) := by decide +kernel
theorem dX12_keep_6 : decode cX12_keep 6 = .ok (.i2l, 1) := by decide +kernel
theorem dX12_keep_7 : decode cX12_keep 7 = .ok (.lconst 0, 1) := by decide +kernel
theorem dX12_keep_8 : decode cX12_keep 8 = .ok (.ldc2_w 279, 3) := by decide +kernel
theorem dX12_keep_11 : decode cX12_keep 11 = .ok (.invokestatic 107, 3) := by decide +kernel
theorem dX12_keep_14 : decode cX12_keep 14 = .ok (.ifCond .ne 5, 3) := by decide +kernel
theorem dX12_keep_17 : decode cX12_keep 17 = .ok (.iconst 0, 1) := by decide +kernel
theorem dX12_keep_18 : decode cX12_keep 18 = .ok (.ireturn, 1) := by decide +kernel
theorem dX12_keep_19 : decode cX12_keep 19 = .ok (.aload_n 0, 1) := by decide +kernel
theorem dX12_keep_20 : decode cX12_keep 20 = .ok (.getfield 90, 3) := by decide +kernel
theorem dX12_keep_23 : decode cX12_keep 23 = .ok (.iload_n 1, 1) := by decide +kernel
theorem dX12_keep_24 : decode cX12_keep 24 = .ok (.iconst 1, 1) := by decide +kernel
theorem dX12_keep_25 : decode cX12_keep 25 = .ok (.bastore, 1) := by decide +kernel
theorem dX12_keep_26 : decode cX12_keep 26 = .ok (.iconst 0, 1) := by decide +kernel
theorem dX12_keep_27 : decode cX12_keep 27 = .ok (.istore_n 2, 1) := by decide +kernel
theorem dX12_keep_28 : decode cX12_keep 28 = .ok (.iload_n 2, 1) := by decide +kernel
theorem dX12_keep_29 : decode cX12_keep 29 = .ok (.bipush 29, 2) := by decide +kernel
theorem dX12_keep_31 : decode cX12_keep 31 = .ok (.if_icmp .ge 26, 3) := by decide +kernel
theorem dX12_keep_34 : decode cX12_keep 34 = .ok (.aload_n 0, 1) := by decide +kernel
theorem dX12_keep_35 : decode cX12_keep 35 = .ok (.getfield 94, 3) := by decide +kernel
theorem dX12_keep_38 : decode cX12_keep 38 = .ok (.bipush 29, 2) := by decide +kernel
theorem dX12_keep_40 : decode cX12_keep 40 = .ok (.iload_n 1, 1) := by decide +kernel
theorem dX12_keep_41 : decode cX12_keep 41 = .ok (.imul, 1) := by decide +kernel
theorem dX12_keep_42 : decode cX12_keep 42 = .ok (.iload_n 2, 1) := by decide +kernel
theorem dX12_keep_43 : decode cX12_keep 43 = .ok (.iadd, 1) := by decide +kernel
theorem dX12_keep_44 : decode cX12_keep 44 = .ok (.aload_n 0, 1) := by decide +kernel
theorem dX12_keep_45 : decode cX12_keep 45 = .ok (.getfield 36, 3) := by decide +kernel
theorem dX12_keep_48 : decode cX12_keep 48 = .ok (.iload_n 2, 1) := by decide +kernel
theorem dX12_keep_49 : decode cX12_keep 49 = .ok (.iaload, 1) := by decide +kernel
theorem dX12_keep_50 : decode cX12_keep 50 = .ok (.iastore, 1) := by decide +kernel
theorem dX12_keep_51 : decode cX12_keep 51 = .ok (.iinc 2 1, 3) := by decide +kernel
theorem dX12_keep_54 : decode cX12_keep 54 = .ok (.goto (-26), 3) := by decide +kernel
theorem dX12_keep_57 : decode cX12_keep 57 = .ok (.iconst 1, 1) := by decide +kernel
theorem dX12_keep_58 : decode cX12_keep 58 = .ok (.ireturn, 1) := by decide +kernel
theorem dX12_again_0 : decode cX12_again 0 = .ok (.aload_n 0, 1) := by decide +kernel
theorem dX12_again_1 : decode cX12_again 1 = .ok (.iconst 0, 1) := by decide +kernel
theorem dX12_again_2 : decode cX12_again 2 = .ok (.putfield 97, 3) := by decide +kernel
theorem dX12_again_5 : decode cX12_again 5 = .ok (.iload_n 1, 1) := by decide +kernel
theorem dX12_again_6 : decode cX12_again 6 = .ok (.i2l, 1) := by decide +kernel
theorem dX12_again_7 : decode cX12_again 7 = .ok (.lconst 0, 1) := by decide +kernel
theorem dX12_again_8 : decode cX12_again 8 = .ok (.ldc2_w 279, 3) := by decide +kernel
theorem dX12_again_11 : decode cX12_again 11 = .ok (.invokestatic 107, 3) := by decide +kernel
theorem dX12_again_14 : decode cX12_again 14 = .ok (.ifCond .eq 12, 3) := by decide +kernel
theorem dX12_again_17 : decode cX12_again 17 = .ok (.aload_n 0, 1) := by decide +kernel
theorem dX12_again_18 : decode cX12_again 18 = .ok (.getfield 90, 3) := by decide +kernel
theorem dX12_again_21 : decode cX12_again 21 = .ok (.iload_n 1, 1) := by decide +kernel
theorem dX12_again_22 : decode cX12_again 22 = .ok (.baload, 1) := by decide +kernel
theorem dX12_again_23 : decode cX12_again 23 = .ok (.ifCond .ne 5, 3) := by decide +kernel
theorem dX12_again_26 : decode cX12_again 26 = .ok (.iconst 0, 1) := by decide +kernel
theorem dX12_again_27 : decode cX12_again 27 = .ok (.ireturn, 1) := by decide +kernel
theorem dX12_again_28 : decode cX12_again 28 = .ok (.iconst 0, 1) := by decide +kernel
theorem dX12_again_29 : decode cX12_again 29 = .ok (.istore_n 2, 1) := by decide +kernel
theorem dX12_again_30 : decode cX12_again 30 = .ok (.iload_n 2, 1) := by decide +kernel
theorem dX12_again_31 : decode cX12_again 31 = .ok (.bipush 29, 2) := by decide +kernel
theorem dX12_again_33 : decode cX12_again 33 = .ok (.if_icmp .ge 26, 3) := by decide +kernel
theorem dX12_again_36 : decode cX12_again 36 = .ok (.aload_n 0, 1) := by decide +kernel
theorem dX12_again_37 : decode cX12_again 37 = .ok (.getfield 36, 3) := by decide +kernel
theorem dX12_again_40 : decode cX12_again 40 = .ok (.iload_n 2, 1) := by decide +kernel
theorem dX12_again_41 : decode cX12_again 41 = .ok (.aload_n 0, 1) := by decide +kernel
theorem dX12_again_42 : decode cX12_again 42 = .ok (.getfield 94, 3) := by decide +kernel
theorem dX12_again_45 : decode cX12_again 45 = .ok (.bipush 29, 2) := by decide +kernel
theorem dX12_again_47 : decode cX12_again 47 = .ok (.iload_n 1, 1) := by decide +kernel
theorem dX12_again_48 : decode cX12_again 48 = .ok (.imul, 1) := by decide +kernel
theorem dX12_again_49 : decode cX12_again 49 = .ok (.iload_n 2, 1) := by decide +kernel
theorem dX12_again_50 : decode cX12_again 50 = .ok (.iadd, 1) := by decide +kernel
theorem dX12_again_51 : decode cX12_again 51 = .ok (.iaload, 1) := by decide +kernel
theorem dX12_again_52 : decode cX12_again 52 = .ok (.iastore, 1) := by decide +kernel
theorem dX12_again_53 : decode cX12_again 53 = .ok (.iinc 2 1, 3) := by decide +kernel
theorem dX12_again_56 : decode cX12_again 56 = .ok (.goto (-26), 3) := by decide +kernel
theorem dX12_again_59 : decode cX12_again 59 = .ok (.aload_n 0, 1) := by decide +kernel
theorem dX12_again_60 : decode cX12_again 60 = .ok (.iconst 0, 1) := by decide +kernel
theorem dX12_again_61 : decode cX12_again 61 = .ok (.putfield 181, 3) := by decide +kernel
theorem dX12_again_64 : decode cX12_again 64 = .ok (.iconst 1, 1) := by decide +kernel
theorem dX12_again_65 : decode cX12_again 65 = .ok (.ireturn, 1) := by decide +kernel
theorem dX12_count_0 : decode cX12_count 0 = .ok (.aload_n 0, 1) := by decide +kernel
theorem dX12_count_1 : decode cX12_count 1 = .ok (.iconst 0, 1) := by decide +kernel
theorem dX12_count_2 : decode cX12_count 2 = .ok (.putfield 97, 3) := by decide +kernel
theorem dX12_count_5 : decode cX12_count 5 = .ok (.iload_n 1, 1) := by decide +kernel
theorem dX12_count_6 : decode cX12_count 6 = .ok (.tableswitch 172 0 14 #[74, 79, 84, 89, 97, 105, 113, 121, 130, 138, 147, 152, 157, 162, 167], 74) := by decide +kernel
theorem dX12_count_80 : decode cX12_count 80 = .ok (.aload_n 0, 1) := by decide +kernel
theorem dX12_count_81 : decode cX12_count 81 = .ok (.getfield 13, 3) := by decide +kernel
theorem dX12_count_84 : decode cX12_count 84 = .ok (.ireturn, 1) := by decide +kernel
theorem dX12_count_85 : decode cX12_count 85 = .ok (.aload_n 0, 1) := by decide +kernel
theorem dX12_count_86 : decode cX12_count 86 = .ok (.getfield 111, 3) := by decide +kernel
theorem dX12_count_89 : decode cX12_count 89 = .ok (.ireturn, 1) := by decide +kernel
theorem dX12_count_90 : decode cX12_count 90 = .ok (.aload_n 0, 1) := by decide +kernel
theorem dX12_count_91 : decode cX12_count 91 = .ok (.getfield 200, 3) := by decide +kernel
theorem dX12_count_94 : decode cX12_count 94 = .ok (.ireturn, 1) := by decide +kernel
theorem dX12_count_95 : decode cX12_count 95 = .ok (.aload_n 0, 1) := by decide +kernel
theorem dX12_count_96 : decode cX12_count 96 = .ok (.getfield 36, 3) := by decide +kernel
theorem dX12_count_99 : decode cX12_count 99 = .ok (.bipush 25, 2) := by decide +kernel
theorem dX12_count_101 : decode cX12_count 101 = .ok (.iaload, 1) := by decide +kernel
theorem dX12_count_102 : decode cX12_count 102 = .ok (.ireturn, 1) := by decide +kernel
theorem dX12_count_103 : decode cX12_count 103 = .ok (.aload_n 0, 1) := by decide +kernel
theorem dX12_count_104 : decode cX12_count 104 = .ok (.getfield 36, 3) := by decide +kernel
theorem dX12_count_107 : decode cX12_count 107 = .ok (.bipush 26, 2) := by decide +kernel
theorem dX12_count_109 : decode cX12_count 109 = .ok (.iaload, 1) := by decide +kernel
theorem dX12_count_110 : decode cX12_count 110 = .ok (.ireturn, 1) := by decide +kernel
theorem dX12_count_111 : decode cX12_count 111 = .ok (.aload_n 0, 1) := by decide +kernel
theorem dX12_count_112 : decode cX12_count 112 = .ok (.getfield 36, 3) := by decide +kernel
theorem dX12_count_115 : decode cX12_count 115 = .ok (.bipush 27, 2) := by decide +kernel
theorem dX12_count_117 : decode cX12_count 117 = .ok (.iaload, 1) := by decide +kernel
theorem dX12_count_118 : decode cX12_count 118 = .ok (.ireturn, 1) := by decide +kernel
theorem dX12_count_119 : decode cX12_count 119 = .ok (.aload_n 0, 1) := by decide +kernel
theorem dX12_count_120 : decode cX12_count 120 = .ok (.getfield 36, 3) := by decide +kernel
theorem dX12_count_123 : decode cX12_count 123 = .ok (.bipush 28, 2) := by decide +kernel
theorem dX12_count_125 : decode cX12_count 125 = .ok (.iaload, 1) := by decide +kernel
theorem dX12_count_126 : decode cX12_count 126 = .ok (.ireturn, 1) := by decide +kernel
theorem dX12_count_127 : decode cX12_count 127 = .ok (.aload_n 0, 1) := by decide +kernel
theorem dX12_count_128 : decode cX12_count 128 = .ok (.aload_n 0, 1) := by decide +kernel
theorem dX12_count_129 : decode cX12_count 129 = .ok (.getfield 36, 3) := by decide +kernel
theorem dX12_count_132 : decode cX12_count 132 = .ok (.invokevirtual 259, 3) := by decide +kernel
theorem dX12_count_135 : decode cX12_count 135 = .ok (.ireturn, 1) := by decide +kernel
theorem dX12_count_136 : decode cX12_count 136 = .ok (.aload_n 0, 1) := by decide +kernel
theorem dX12_count_137 : decode cX12_count 137 = .ok (.getfield 36, 3) := by decide +kernel
theorem dX12_count_140 : decode cX12_count 140 = .ok (.bipush 24, 2) := by decide +kernel
theorem dX12_count_142 : decode cX12_count 142 = .ok (.iaload, 1) := by decide +kernel
theorem dX12_count_143 : decode cX12_count 143 = .ok (.ireturn, 1) := by decide +kernel
theorem dX12_count_144 : decode cX12_count 144 = .ok (.aload_n 0, 1) := by decide +kernel
theorem dX12_count_145 : decode cX12_count 145 = .ok (.aload_n 0, 1) := by decide +kernel
theorem dX12_count_146 : decode cX12_count 146 = .ok (.getfield 36, 3) := by decide +kernel
theorem dX12_count_149 : decode cX12_count 149 = .ok (.invokevirtual 337, 3) := by decide +kernel
theorem dX12_count_152 : decode cX12_count 152 = .ok (.ireturn, 1) := by decide +kernel
theorem dX12_count_153 : decode cX12_count 153 = .ok (.aload_n 0, 1) := by decide +kernel
theorem dX12_count_154 : decode cX12_count 154 = .ok (.getfield 17, 3) := by decide +kernel
theorem dX12_count_157 : decode cX12_count 157 = .ok (.ireturn, 1) := by decide +kernel
theorem dX12_count_158 : decode cX12_count 158 = .ok (.aload_n 0, 1) := by decide +kernel
theorem dX12_count_159 : decode cX12_count 159 = .ok (.getfield 410, 3) := by decide +kernel
theorem dX12_count_162 : decode cX12_count 162 = .ok (.ireturn, 1) := by decide +kernel
theorem dX12_count_163 : decode cX12_count 163 = .ok (.aload_n 0, 1) := by decide +kernel
theorem dX12_count_164 : decode cX12_count 164 = .ok (.getfield 181, 3) := by decide +kernel
theorem dX12_count_167 : decode cX12_count 167 = .ok (.ireturn, 1) := by decide +kernel
theorem dX12_count_168 : decode cX12_count 168 = .ok (.aload_n 0, 1) := by decide +kernel
theorem dX12_count_169 : decode cX12_count 169 = .ok (.getfield 104, 3) := by decide +kernel
theorem dX12_count_172 : decode cX12_count 172 = .ok (.ireturn, 1) := by decide +kernel
theorem dX12_count_173 : decode cX12_count 173 = .ok (.aload_n 0, 1) := by decide +kernel
theorem dX12_count_174 : decode cX12_count 174 = .ok (.getfield 118, 3) := by decide +kernel
theorem dX12_count_177 : decode cX12_count 177 = .ok (.ireturn, 1) := by decide +kernel
theorem dX12_count_178 : decode cX12_count 178 = .ok (.bipush (-100), 2) := by decide +kernel
theorem dX12_count_180 : decode cX12_count 180 = .ok (.ireturn, 1) := by decide +kernel
theorem dX12_row_0 : decode cX12_row 0 = .ok (.aload_n 0, 1) := by decide +kernel
theorem dX12_row_1 : decode cX12_row 1 = .ok (.iconst 0, 1) := by decide +kernel
theorem dX12_row_2 : decode cX12_row 2 = .ok (.putfield 97, 3) := by decide +kernel
theorem dX12_row_5 : decode cX12_row 5 = .ok (.iload_n 1, 1) := by decide +kernel
theorem dX12_row_6 : decode cX12_row 6 = .ok (.i2l, 1) := by decide +kernel
theorem dX12_row_7 : decode cX12_row 7 = .ok (.lconst 0, 1) := by decide +kernel
theorem dX12_row_8 : decode cX12_row 8 = .ok (.aload_n 0, 1) := by decide +kernel
theorem dX12_row_9 : decode cX12_row 9 = .ok (.getfield 104, 3) := by decide +kernel
theorem dX12_row_12 : decode cX12_row 12 = .ok (.iconst 1, 1) := by decide +kernel
theorem dX12_row_13 : decode cX12_row 13 = .ok (.isub, 1) := by decide +kernel
theorem dX12_row_14 : decode cX12_row 14 = .ok (.i2l, 1) := by decide +kernel
theorem dX12_row_15 : decode cX12_row 15 = .ok (.invokestatic 107, 3) := by decide +kernel
theorem dX12_row_18 : decode cX12_row 18 = .ok (.ifCond .ne 10, 3) := by decide +kernel
theorem dX12_row_21 : decode cX12_row 21 = .ok (.aload_n 0, 1) := by decide +kernel
theorem dX12_row_22 : decode cX12_row 22 = .ok (.iconst 1, 1) := by decide +kernel
theorem dX12_row_23 : decode cX12_row 23 = .ok (.putfield 97, 3) := by decide +kernel
theorem dX12_row_26 : decode cX12_row 26 = .ok (.lconst 0, 1) := by decide +kernel
theorem dX12_row_27 : decode cX12_row 27 = .ok (.lreturn, 1) := by decide +kernel
theorem dX12_row_28 : decode cX12_row 28 = .ok (.aload_n 0, 1) := by decide +kernel
theorem dX12_row_29 : decode cX12_row 29 = .ok (.getfield 9, 3) := by decide +kernel
theorem dX12_row_32 : decode cX12_row 32 = .ok (.iload_n 1, 1) := by decide +kernel
theorem dX12_row_33 : decode cX12_row 33 = .ok (.laload, 1) := by decide +kernel
theorem dX12_row_34 : decode cX12_row 34 = .ok (.lreturn, 1) := by decide +kernel
