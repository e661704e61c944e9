section R13_Xm0
variable {E : am_E} {d k n : Nat} {st : List Value} {S : am_S} {iv : am_I} {Q : am_O → am_S → am_I → Prop}
theorem dX10_init_0 : decode cX10_init 0 = .ok (.aload_n 0, 1) := by decide +kernel
theorem dX10_init_1 : decode cX10_init 1 = .ok (.invokespecial 1, 3) := by decide +kernel
theorem dX10_init_4 : decode cX10_init 4 = .ok (.aload_n 0, 1) := by decide +kernel
theorem dX10_init_5 : decode cX10_init 5 = .ok (.iconst 4, 1) := by decide +kernel
theorem dX10_init_6 : decode cX10_init 6 = .ok (.anewarray 7, 3) := by decide +kernel
theorem dX10_init_9 : decode cX10_init 9 = .ok (.dup, 1) := by decide +kernel
theorem dX10_init_10 : decode cX10_init 10 = .ok (.iconst 0, 1) := by decide +kernel
theorem dX10_init_11 : decode cX10_init 11 = .ok (.ldc 9, 2) := by decide +kernel
theorem dX10_init_13 : decode cX10_init 13 = .ok (.aastore, 1) := by decide +kernel
theorem dX10_init_14 : decode cX10_init 14 = .ok (.dup, 1) := by decide +kernel
theorem dX10_init_15 : decode cX10_init 15 = .ok (.iconst 1, 1) := by decide +kernel
theorem dX10_init_16 : decode cX10_init 16 = .ok (.ldc 11, 2) := by decide +kernel
theorem dX10_init_18 : decode cX10_init 18 = .ok (.aastore, 1) := by decide +kernel
theorem dX10_init_19 : decode cX10_init 19 = .ok (.dup, 1) := by decide +kernel
theorem dX10_init_20 : decode cX10_init 20 = .ok (.iconst 2, 1) := by decide +kernel
theorem dX10_init_21 : decode cX10_init 21 = .ok (.ldc 13, 2) := by decide +kernel
theorem dX10_init_23 : decode cX10_init 23 = .ok (.aastore, 1) := by decide +kernel
theorem dX10_init_24 : decode cX10_init 24 = .ok (.dup, 1) := by decide +kernel
theorem dX10_init_25 : decode cX10_init 25 = .ok (.iconst 3, 1) := by decide +kernel
theorem dX10_init_26 : decode cX10_init 26 = .ok (.ldc 15, 2) := by decide +kernel
theorem dX10_init_28 : decode cX10_init 28 = .ok (.aastore, 1) := by decide +kernel
theorem dX10_init_29 : decode cX10_init 29 = .ok (.putfield 17, 3) := by decide +kernel
theorem dX10_init_32 : decode cX10_init 32 = .ok (.aload_n 0, 1) := by decide +kernel
theorem dX10_init_33 : decode cX10_init 33 = .ok (.iconst 3, 1) := by decide +kernel
theorem dX10_init_34 : decode cX10_init 34 = .ok (.anewarray 7, 3) := by decide +kernel
theorem dX10_init_37 : decode cX10_init 37 = .ok (.dup, 1) := by decide +kernel
theorem dX10_init_38 : decode cX10_init 38 = .ok (.iconst 0, 1) := by decide +kernel
theorem dX10_init_39 : decode cX10_init 39 = .ok (.ldc 23, 2) := by decide +kernel
theorem dX10_init_41 : decode cX10_init 41 = .ok (.aastore, 1) := by decide +kernel
theorem dX10_init_42 : decode cX10_init 42 = .ok (.dup, 1) := by decide +kernel
theorem dX10_init_43 : decode cX10_init 43 = .ok (.iconst 1, 1) := by decide +kernel
theorem dX10_init_44 : decode cX10_init 44 = .ok (.ldc 25, 2) := by decide +kernel
theorem dX10_init_46 : decode cX10_init 46 = .ok (.aastore, 1) := by decide +kernel
theorem dX10_init_47 : decode cX10_init 47 = .ok (.dup, 1) := by decide +kernel
theorem dX10_init_48 : decode cX10_init 48 = .ok (.iconst 2, 1) := by decide +kernel
theorem dX10_init_49 : decode cX10_init 49 = .ok (.ldc 27, 2) := by decide +kernel
theorem dX10_init_51 : decode cX10_init 51 = .ok (.aastore, 1) := by decide +kernel
theorem dX10_init_52 : decode cX10_init 52 = .ok (.putfield 29, 3) := by decide +kernel
theorem dX10_init_55 : decode cX10_init 55 = .ok (.aload_n 0, 1) := by decide +kernel
theorem dX10_init_56 : decode cX10_init 56 = .ok (.bipush 7, 2) := by decide +kernel
theorem dX10_init_58 : decode cX10_init 58 = .ok (.anewarray 7, 3) := by decide +kernel
theorem dX10_init_61 : decode cX10_init 61 = .ok (.dup, 1) := by decide +kernel
theorem dX10_init_62 : decode cX10_init 62 = .ok (.iconst 0, 1) := by decide +kernel
theorem dX10_init_63 : decode cX10_init 63 = .ok (.ldc 32, 2) := by decide +kernel
theorem dX10_init_65 : decode cX10_init 65 = .ok (.aastore, 1) := by decide +kernel
theorem dX10_init_66 : decode cX10_init 66 = .ok (.dup, 1) := by decide +kernel
theorem dX10_init_67 : decode cX10_init 67 = .ok (.iconst 1, 1) := by decide +kernel
theorem dX10_init_68 : decode cX10_init 68 = .ok (.ldc 34, 2) := by decide +kernel
theorem dX10_init_70 : decode cX10_init 70 = .ok (.aastore, 1) := by decide +kernel
theorem dX10_init_71 : decode cX10_init 71 = .ok (.dup, 1) := by decide +kernel
theorem dX10_init_72 : decode cX10_init 72 = .ok (.iconst 2, 1) := by decide +kernel
theorem dX10_init_73 : decode cX10_init 73 = .ok (.ldc 36, 2) := by decide +kernel
theorem dX10_init_75 : decode cX10_init 75 = .ok (.aastore, 1) := by decide +kernel
theorem dX10_init_76 : decode cX10_init 76 = .ok (.dup, 1) := by decide +kernel
theorem dX10_init_77 : decode cX10_init 77 = .ok (.iconst 3, 1) := by decide +kernel
theorem dX10_init_78 : decode cX10_init 78 = .ok (.ldc 38, 2) := by decide +kernel
theorem dX10_init_80 : decode cX10_init 80 = .ok (.aastore, 1) := by decide +kernel
theorem dX10_init_81 : decode cX10_init 81 = .ok (.dup, 1) := by decide +kernel
theorem dX10_init_82 : decode cX10_init 82 = .ok (.iconst 4, 1) := by decide +kernel
theorem dX10_init_83 : decode cX10_init 83 = .ok (.ldc 40, 2) := by decide +kernel
theorem dX10_init_85 : decode cX10_init 85 = .ok (.aastore, 1) := by decide +kernel
theorem dX10_init_86 : decode cX10_init 86 = .ok (.dup, 1) := by decide +kernel
theorem dX10_init_87 : decode cX10_init 87 = .ok (.iconst 5, 1) := by decide +kernel
theorem dX10_init_88 : decode cX10_init 88 = .ok (.ldc 42, 2) := by decide +kernel
theorem dX10_init_90 : decode cX10_init 90 = .ok (.aastore, 1) := by decide +kernel
theorem dX10_init_91 : decode cX10_init 91 = .ok (.dup, 1) := by decide +kernel
theorem dX10_init_92 : decode cX10_init 92 = .ok (.bipush 6, 2) := by decide +kernel
theorem dX10_init_94 : decode cX10_init 94 = .ok (.ldc 44, 2) := by decide +kernel
theorem dX10_init_96 : decode cX10_init 96 = .ok (.aastore, 1) := by decide +kernel
theorem dX10_init_97 : decode cX10_init 97 = .ok (.putfield 46, 3) := by decide +kernel
theorem dX10_init_100 : decode cX10_init 100 = .ok (.aload_n 0, 1) := by decide +kernel
theorem dX10_init_101 : decode cX10_init 101 = .ok (.bipush 20, 2) := by decide +kernel
theorem dX10_init_103 : decode cX10_init 103 = .ok (.newarray .int, 2) := by decide +kernel
theorem dX10_init_105 : decode cX10_init 105 = .ok (.dup, 1) := by decide +kernel
theorem dX10_init_106 : decode cX10_init 106 = .ok (.iconst 0, 1) := by decide +kernel
theorem dX10_init_107 : decode cX10_init 107 = .ok (.iconst 3, 1) := by decide +kernel
theorem dX10_init_108 : decode cX10_init 108 = .ok (.iastore, 1) := by decide +kernel
theorem dX10_init_109 : decode cX10_init 109 = .ok (.dup, 1) := by decide +kernel
theorem dX10_init_110 : decode cX10_init 110 = .ok (.iconst 1, 1) := by decide +kernel
theorem dX10_init_111 : decode cX10_init 111 = .ok (.iconst 4, 1) := by decide +kernel
theorem dX10_init_112 : decode cX10_init 112 = .ok (.iastore, 1) := by decide +kernel
theorem dX10_init_113 : decode cX10_init 113 = .ok (.dup, 1) := by decide +kernel
theorem dX10_init_114 : decode cX10_init 114 = .ok (.iconst 2, 1) := by decide +kernel
theorem dX10_init_115 : decode cX10_init 115 = .ok (.iconst 0, 1) := by decide +kernel
theorem dX10_init_116 : decode cX10_init 116 = .ok (.iastore, 1) := by decide +kernel
theorem dX10_init_117 : decode cX10_init 117 = .ok (.dup, 1) := by decide +kernel
theorem dX10_init_118 : decode cX10_init 118 = .ok (.iconst 3, 1) := by decide +kernel
theorem dX10_init_119 : decode cX10_init 119 = .ok (.iconst 0, 1) := by decide +kernel
theorem dX10_init_120 : decode cX10_init 120 = .ok (.iastore, 1) := by decide +kernel
theorem dX10_init_121 : decode cX10_init 121 = .ok (.dup, 1) := by decide +kernel
theorem dX10_init_122 : decode cX10_init 122 = .ok (.iconst 4, 1) := by decide +kernel
theorem dX10_init_123 : decode cX10_init 123 = .ok (.iconst 2, 1) := by decide +kernel
theorem dX10_init_124 : decode cX10_init 124 = .ok (.iastore, 1) := by decide +kernel
theorem dX10_init_125 : decode cX10_init 125 = .ok (.dup, 1) := by decide +kernel
theorem dX10_init_126 : decode cX10_init 126 = .ok (.iconst 5, 1) := by decide +kernel
theorem dX10_init_127 : decode cX10_init 127 = .ok (.iconst 0, 1) := by decide +kernel
theorem dX10_init_128 : decode cX10_init 128 = .ok (.iastore, 1) := by decide +kernel
theorem dX10_init_129 : decode cX10_init 129 = .ok (.dup, 1) := by decide +kernel
theorem dX10_init_130 : decode cX10_init 130 = .ok (.bipush 6, 2) := by decide +kernel
theorem dX10_init_132 : decode cX10_init 132 = .ok (.iconst 0, 1) := by decide +kernel
theorem dX10_init_133 : decode cX10_init 133 = .ok (.iastore, 1) := by decide +kernel
theorem dX10_init_134 : decode cX10_init 134 = .ok (.dup, 1) := by decide +kernel
theorem dX10_init_135 : decode cX10_init 135 = .ok (.bipush 7, 2) := by decide +kernel
theorem dX10_init_137 : decode cX10_init 137 = .ok (.iconst 0, 1) := by decide +kernel
theorem dX10_init_138 : decode cX10_init 138 = .ok (.iastore, 1) := by decide +kernel
theorem dX10_init_139 : decode cX10_init 139 = .ok (.dup, 1) := by decide +kernel
theorem dX10_init_140 : decode cX10_init 140 = .ok (.bipush 8, 2) := by decide +kernel
theorem dX10_init_142 : decode cX10_init 142 = .ok (.iconst 0, 1) := by decide +kernel
theorem dX10_init_143 : decode cX10_init 143 = .ok (.iastore, 1) := by decide +kernel
theorem dX10_init_144 : decode cX10_init 144 = .ok (.dup, 1) := by decide +kernel
theorem dX10_init_145 : decode cX10_init 145 = .ok (.bipush 9, 2) := by decide +kernel
theorem dX10_init_147 : decode cX10_init 147 = .ok (.iconst 0, 1) := by decide +kernel
theorem dX10_init_148 : decode cX10_init 148 = .ok (.iastore, 1) := by decide +kernel
theorem dX10_init_149 : decode cX10_init 149 = .ok (.dup, 1) := by decide +kernel
theorem dX10_init_150 : decode cX10_init 150 = .ok (.bipush 10, 2) := by decide +kernel
theorem dX10_init_152 : decode cX10_init 152 = .ok (.iconst 3, 1) := by decide +kernel
theorem dX10_init_153 : decode cX10_init 153 = .ok (.iastore, 1) := by decide +kernel
theorem dX10_init_154 : decode cX10_init 154 = .ok (.dup, 1) := by decide +kernel
theorem dX10_init_155 : decode cX10_init 155 = .ok (.bipush 11, 2) := by decide +kernel
theorem dX10_init_157 : decode cX10_init 157 = .ok (.iconst 4, 1) := by decide +kernel
theorem dX10_init_158 : decode cX10_init 158 = .ok (.iastore, 1) := by decide +kernel
theorem dX10_init_159 : decode cX10_init 159 = .ok (.dup, 1) := by decide +kernel
theorem dX10_init_160 : decode cX10_init 160 = .ok (.bipush 12, 2) := by decide +kernel
theorem dX10_init_162 : decode cX10_init 162 = .ok (.iconst 0, 1) := by decide +kernel
theorem dX10_init_163 : decode cX10_init 163 = .ok (.iastore, 1) := by decide +kernel
theorem dX10_init_164 : decode cX10_init 164 = .ok (.dup, 1) := by decide +kernel
theorem dX10_init_165 : decode cX10_init 165 = .ok (.bipush 13, 2) := by decide +kernel
theorem dX10_init_167 : decode cX10_init 167 = .ok (.iconst 0, 1) := by decide +kernel
theorem dX10_init_168 : decode cX10_init 168 = .ok (.iastore, 1) := by decide +kernel
theorem dX10_init_169 : decode cX10_init 169 = .ok (.dup, 1) := by decide +kernel
theorem dX10_init_170 : decode cX10_init 170 = .ok (.bipush 14, 2) := by decide +kernel
theorem dX10_init_172 : decode cX10_init 172 = .ok (.iconst 2, 1) := by decide +kernel
theorem dX10_init_173 : decode cX10_init 173 = .ok (.iastore, 1) := by decide +kernel
theorem dX10_init_174 : decode cX10_init 174 = .ok (.dup, 1) := by decide +kernel
theorem dX10_init_175 : decode cX10_init 175 = .ok (.bipush 15, 2) := by decide +kernel
theorem dX10_init_177 : decode cX10_init 177 = .ok (.iconst 0, 1) := by decide +kernel
theorem dX10_init_178 : decode cX10_init 178 = .ok (.iastore, 1) := by decide +kernel
theorem dX10_init_179 : decode cX10_init 179 = .ok (.dup, 1) := by decide +kernel
theorem dX10_init_180 : decode cX10_init 180 = .ok (.bipush 16, 2) := by decide +kernel
theorem dX10_init_182 : decode cX10_init 182 = .ok (.iconst 0, 1) := by decide +kernel
theorem dX10_init_183 : decode cX10_init 183 = .ok (.iastore, 1) := by decide +kernel
theorem dX10_init_184 : decode cX10_init 184 = .ok (.dup, 1) := by decide +kernel
theorem dX10_init_185 : decode cX10_init 185 = .ok (.bipush 17, 2) := by decide +kernel
theorem dX10_init_187 : decode cX10_init 187 = .ok (.iconst 0, 1) := by decide +kernel
theorem dX10_init_188 : decode cX10_init 188 = .ok (.iastore, 1) := by decide +kernel
theorem dX10_init_189 : decode cX10_init 189 = .ok (.dup, 1) := by decide +kernel
theorem dX10_init_190 : decode cX10_init 190 = .ok (.bipush 18, 2) := by decide +kernel
theorem dX10_init_192 : decode cX10_init 192 = .ok (.iconst 0, 1) := by decide +kernel
theorem dX10_init_193 : decode cX10_init 193 = .ok (.iastore, 1) := by decide +kernel
theorem dX10_init_194 : decode cX10_init 194 = .ok (.dup, 1) := by decide +kernel
theorem dX10_init_195 : decode cX10_init 195 = .ok (.bipush 19, 2) := by decide +kernel
theorem dX10_init_197 : decode cX10_init 197 = .ok (.iconst 0, 1) := by decide +kernel
theorem dX10_init_198 : decode cX10_init 198 = .ok (.iastore, 1) := by decide +kernel
theorem dX10_init_199 : decode cX10_init 199 = .ok (.putfield 49, 3) := by decide +kernel
theorem dX10_init_202 : decode cX10_init 202 = .ok (.aload_n 0, 1) := by decide +kernel
theorem dX10_init_203 : decode cX10_init 203 = .ok (.bipush 20, 2) := by decide +kernel
theorem dX10_init_205 : decode cX10_init 205 = .ok (.newarray .int, 2) := by decide +kernel
theorem dX10_init_207 : decode cX10_init 207 = .ok (.putfield 53, 3) := by decide +kernel
theorem dX10_init_210 : decode cX10_init 210 = .ok (.aload_n 0, 1) := by decide +kernel
theorem dX10_init_211 : decode cX10_init 211 = .ok (.bipush 20, 2) := by decide +kernel
theorem dX10_init_213 : decode cX10_init 213 = .ok (.newarray .int, 2) := by decide +kernel
theorem dX10_init_215 : decode cX10_init 215 = .ok (.putfield 55, 3) := by decide +kernel
theorem dX10_init_218 : decode cX10_init 218 = .ok (.aload_n 0, 1) := by decide +kernel
theorem dX10_init_219 : decode cX10_init 219 = .ok (.bipush 20, 2) := by decide +kernel
theorem dX10_init_221 : decode cX10_init 221 = .ok (.newarray .int, 2) := by decide +kernel
theorem dX10_init_223 : decode cX10_init 223 = .ok (.putfield 57, 3) := by decide +kernel
theorem dX10_init_226 : decode cX10_init 226 = .ok (.aload_n 0, 1) := by decide +kernel
theorem dX10_init_227 : decode cX10_init 227 = .ok (.bipush 20, 2) := by decide +kernel
theorem dX10_init_229 : decode cX10_init 229 = .ok (.newarray .int, 2) := by decide +kernel
theorem dX10_init_231 : decode cX10_init 231 = .ok (.putfield 59, 3) := by decide +kernel
theorem dX10_init_234 : decode cX10_init 234 = .ok (.aload_n 0, 1) := by decide +kernel
theorem dX10_init_235 : decode cX10_init 235 = .ok (.bipush 20, 2) := by decide +kernel
theorem dX10_init_237 : decode cX10_init 237 = .ok (.newarray .int, 2) := by decide +kernel
theorem dX10_init_239 : decode cX10_init 239 = .ok (.putfield 61, 3) := by decide +kernel
theorem dX10_init_242 : decode cX10_init 242 = .ok (.aload_n 0, 1) := by decide +kernel
theorem dX10_init_243 : decode cX10_init 243 = .ok (.bipush 10, 2) := by decide +kernel
theorem dX10_init_245 : decode cX10_init 245 = .ok (.newarray .int, 2) := by decide +kernel
theorem dX10_init_247 : decode cX10_init 247 = .ok (.putfield 64, 3) := by decide +kernel
theorem dX10_init_250 : decode cX10_init 250 = .ok (.aload_n 0, 1) := by decide +kernel
theorem dX10_init_251 : decode cX10_init 251 = .ok (.bipush 10, 2) := by decide +kernel
theorem dX10_init_253 : decode cX10_init 253 = .ok (.newarray .int, 2) := by decide +kernel
theorem dX10_init_255 : decode cX10_init 255 = .ok (.putfield 66, 3) := by decide +kernel
theorem dX10_init_258 : decode cX10_init 258 = .ok (.aload_n 0, 1) := by decide +kernel
theorem dX10_init_259 : decode cX10_init 259 = .ok (.bipush 10, 2) := by decide +kernel
theorem dX10_init_261 : decode cX10_init 261 = .ok (.newarray .int, 2) := by decide +kernel
theorem dX10_init_263 : decode cX10_init 263 = .ok (.putfield 68, 3) := by decide +kernel
theorem dX10_init_266 : decode cX10_init 266 = .ok (.aload_n 0, 1) := by decide +kernel
theorem dX10_init_267 : decode cX10_init 267 = .ok (.bipush 8, 2) := by decide +kernel
theorem dX10_init_269 : decode cX10_init 269 = .ok (.newarray .int, 2) := by decide +kernel
theorem dX10_init_271 : decode cX10_init 271 = .ok (.putfield 71, 3) := by decide +kernel
theorem dX10_init_274 : decode cX10_init 274 = .ok (.aload_n 0, 1) := by decide +kernel
theorem dX10_init_275 : decode cX10_init 275 = .ok (.bipush 8, 2) := by decide +kernel
theorem dX10_init_277 : decode cX10_init 277 = .ok (.newarray .int, 2) := by decide +kernel
theorem dX10_init_279 : decode cX10_init 279 = .ok (.putfield 74, 3) := by decide +kernel
theorem dX10_init_282 : decode cX10_init 282 = .ok (.aload_n 0, 1) := by decide +kernel
theorem dX10_init_283 : decode cX10_init 283 = .ok (.sipush 1400, 3) := by decide +kernel
theorem dX10_init_286 : decode cX10_init 286 = .ok (.newarray .int, 2) := by decide +kernel
theorem dX10_init_288 : decode cX10_init 288 = .ok (.putfield 77, 3) := by decide +kernel
theorem dX10_init_291 : decode cX10_init 291 = .ok (.aload_n 0, 1) := by decide +kernel
theorem dX10_init_292 : decode cX10_init 292 = .ok (.iconst 2, 1) := by decide +kernel
theorem dX10_init_293 : decode cX10_init 293 = .ok (.newarray .int, 2) := by decide +kernel
theorem dX10_init_295 : decode cX10_init 295 = .ok (.putfield 80, 3) := by decide +kernel
theorem dX10_init_298 : decode cX10_init 298 = .ok (.aload_n 0, 1) := by decide +kernel
theorem dX10_init_299 : decode cX10_init 299 = .ok (.sipush 700, 3) := by decide +kernel
theorem dX10_init_302 : decode cX10_init 302 = .ok (.newarray .int, 2) := by decide +kernel
theorem dX10_init_304 : decode cX10_init 304 = .ok (.putfield 83, 3) := by decide +kernel
theorem dX10_init_307 : decode cX10_init 307 = .ok (.aload_n 0, 1) := by decide +kernel
theorem dX10_init_308 : decode cX10_init 308 = .ok (.iconst (-1), 1) := by decide +kernel
theorem dX10_init_309 : decode cX10_init 309 = .ok (.putfield 86, 3) := by decide +kernel
theorem dX10_init_312 : decode cX10_init 312 = .ok (.aload_n 0, 1) := by decide +kernel
theorem dX10_init_313 : decode cX10_init 313 = .ok (.iconst 5, 1) := by decide +kernel
theorem dX10_init_314 : decode cX10_init 314 = .ok (.newarray .int, 2) := by decide +kernel
theorem dX10_init_316 : decode cX10_init 316 = .ok (.putfield 90, 3) := by decide +kernel
theorem dX10_init_319 : decode cX10_init 319 = .ok (.aload_n 0, 1) := by decide +kernel
theorem dX10_init_320 : decode cX10_init 320 = .ok (.bipush 100, 2) := by decide +kernel
theorem dX10_init_322 : decode cX10_init 322 = .ok (.newarray .int, 2) := by decide +kernel
theorem dX10_init_324 : decode cX10_init 324 = .ok (.putfield 93, 3) := by decide +kernel
theorem dX10_init_327 : decode cX10_init 327 = .ok (.aload_n 0, 1) := by decide +kernel
theorem dX10_init_328 : decode cX10_init 328 = .ok (.bipush 100, 2) := by decide +kernel
theorem dX10_init_330 : decode cX10_init 330 = .ok (.newarray .int, 2) := by decide +kernel
theorem dX10_init_332 : decode cX10_init 332 = .ok (.putfield 96, 3) := by decide +kernel
theorem dX10_init_335 : decode cX10_init 335 = .ok (.aload_n 0, 1) := by decide +kernel
theorem dX10_init_336 : decode cX10_init 336 = .ok (.bipush 7, 2) := by decide +kernel
theorem dX10_init_338 : decode cX10_init 338 = .ok (.newarray .int, 2) := by decide +kernel
theorem dX10_init_340 : decode cX10_init 340 = .ok (.putfield 99, 3) := by decide +kernel
theorem dX10_init_343 : decode cX10_init 343 = .ok (.aload_n 0, 1) := by decide +kernel
theorem dX10_init_344 : decode cX10_init 344 = .ok (.bipush 60, 2) := by decide +kernel
theorem dX10_init_346 : decode cX10_init 346 = .ok (.newarray .int, 2) := by decide +kernel
theorem dX10_init_348 : decode cX10_init 348 = .ok (.putfield 102, 3) := by decide +kernel
theorem dX10_init_351 : decode cX10_init 351 = .ok (.aload_n 0, 1) := by decide +kernel
theorem dX10_init_352 : decode cX10_init 352 = .ok (.ldc 105, 2) := by decide +kernel
theorem dX10_init_354 : decode cX10_init 354 = .ok (.newarray .int, 2) := by decide +kernel
theorem dX10_init_356 : decode cX10_init 356 = .ok (.putfield 106, 3) := by decide +kernel
theorem dX10_init_359 : decode cX10_init 359 = .ok (.aload_n 0, 1) := by decide +kernel
theorem dX10_init_360 : decode cX10_init 360 = .ok (.ldc 105, 2) := by decide +kernel
theorem dX10_init_362 : decode cX10_init 362 = .ok (.newarray .int, 2) := by decide +kernel
theorem dX10_init_364 : decode cX10_init 364 = .ok (.putfield 109, 3) := by decide +kernel
theorem dX10_init_367 : decode cX10_init 367 = .ok (.aload_n 0, 1) := by decide +kernel
theorem dX10_init_368 : decode cX10_init 368 = .ok (.ldc 105, 2) := by decide +kernel
theorem dX10_init_370 : decode cX10_init 370 = .ok (.newarray .int, 2) := by decide +kernel
theorem dX10_init_372 : decode cX10_init 372 = .ok (.putfield 112, 3) := by decide +kernel
theorem dX10_init_375 : decode cX10_init 375 = .ok (.aload_n 0, 1) := by decide +kernel
theorem dX10_init_376 : decode cX10_init 376 = .ok (.ldc 105, 2) := by decide +kernel
theorem dX10_init_378 : decode cX10_init 378 = .ok (.newarray .int, 2) := by decide +kernel
theorem dX10_init_380 : decode cX10_init 380 = .ok (.putfield 115, 3) := by decide +kernel
theorem dX10_init_383 : decode cX10_init 383 = .ok (.aload_n 0, 1) := by decide +kernel
theorem dX10_init_384 : decode cX10_init 384 = .ok (.ldc 105, 2) := by decide +kernel
theorem dX10_init_386 : decode cX10_init 386 = .ok (.newarray .int, 2) := by decide +kernel
theorem dX10_init_388 : decode cX10_init 388 = .ok (.putfield 118, 3) := by decide +kernel
theorem dX10_init_391 : decode cX10_init 391 = .ok (.aload_n 0, 1) := by decide +kernel
theorem dX10_init_392 : decode cX10_init 392 = .ok (.sipush 1024, 3) := by decide +kernel
theorem dX10_init_395 : decode cX10_init 395 = .ok (.newarray .boolean, 2) := by decide +kernel
theorem dX10_init_397 : decode cX10_init 397 = .ok (.putfield 121, 3) := by decide +kernel
theorem dX10_init_400 : decode cX10_init 400 = .ok (.aload_n 0, 1) := by decide +kernel
theorem dX10_init_401 : decode cX10_init 401 = .ok (.iconst (-1), 1) := by decide +kernel
theorem dX10_init_402 : decode cX10_init 402 = .ok (.putfield 125, 3) := by decide +kernel
theorem dX10_init_405 : decode cX10_init 405 = .ok (.aload_n 0, 1) := by decide +kernel
theorem dX10_init_406 : decode cX10_init 406 = .ok (.iconst 5, 1) := by decide +kernel
theorem dX10_init_407 : decode cX10_init 407 = .ok (.newarray .int, 2) := by decide +kernel
theorem dX10_init_409 : decode cX10_init 409 = .ok (.putfield 128, 3) := by decide +kernel
theorem dX10_init_412 : decode cX10_init 412 = .ok (.aload_n 0, 1) := by decide +kernel
theorem dX10_init_413 : decode cX10_init 413 = .ok (.iconst 5, 1) := by decide +kernel
theorem dX10_init_414 : decode cX10_init 414 = .ok (.newarray .int, 2) := by decide +kernel
theorem dX10_init_416 : decode cX10_init 416 = .ok (.putfield 131, 3) := by decide +kernel
theorem dX10_init_419 : decode cX10_init 419 = .ok (.aload_n 0, 1) := by decide +kernel
theorem dX10_init_420 : decode cX10_init 420 = .ok (.bipush 100, 2) := by decide +kernel
theorem dX10_init_422 : decode cX10_init 422 = .ok (.newarray .int, 2) := by decide +kernel
theorem dX10_init_424 : decode cX10_init 424 = .ok (.putfield 134, 3) := by decide +kernel
theorem dX10_init_427 : decode cX10_init 427 = .ok (.aload_n 0, 1) := by decide +kernel
theorem dX10_init_428 : decode cX10_init 428 = .ok (.bipush 100, 2) := by decide +kernel
theorem dX10_init_430 : decode cX10_init 430 = .ok (.newarray .int, 2) := by decide +kernel
theorem dX10_init_432 : decode cX10_init 432 = .ok (.putfield 137, 3) := by decide +kernel
theorem dX10_init_435 : decode cX10_init 435 = .ok (.aload_n 0, 1) := by decide +kernel
theorem dX10_init_436 : decode cX10_init 436 = .ok (.iconst 2, 1) := by decide +kernel
theorem dX10_init_437 : decode cX10_init 437 = .ok (.newarray .int, 2) := by decide +kernel
theorem dX10_init_439 : decode cX10_init 439 = .ok (.putfield 140, 3) := by decide +kernel
theorem dX10_init_442 : decode cX10_init 442 = .ok (.return_, 1) := by decide +kernel
theorem sX10_init_0 {a0 : Value} (hv : am_rf a0 = true) (h : am_R E d mX10_init k n 1 [a0] (a0 :: st) S iv Q) : am_R E d mX10_init k n 0 [a0] st S iv Q := am_aload_n dX10_init_0 rfl rfl hv h
theorem sX10_init_1 {ls : List Value} {a : Nat} (hst : (st.map fun v => v.category).sum ≤ 8) (h : am_R E (d + 1) mX10_init k n 4 ls st S iv Q) : am_R E (d + 1) mX10_init k n 1 ls (.ref a :: st) S iv Q := am_objInit dX10_init_1 wq_767 wq_63 wq_64 hst (by omega) h
theorem sX10_init_4 {a0 : Value} (hv : am_rf a0 = true) (h : am_R E d mX10_init k n 5 [a0] (a0 :: st) S iv Q) : am_R E d mX10_init k n 4 [a0] st S iv Q := am_aload_n dX10_init_4 rfl rfl hv h
theorem sX10_init_5 {a0 : Value} (h : am_R E d mX10_init k n 6 [a0] (.int 4 :: st) S iv Q) : am_R E d mX10_init k n 5 [a0] st S iv Q := am_iconst dX10_init_5 (by decide) h
theorem sX10_init_6 {ls : List Value} {x : Int32} {m : Nat} (hx : ¬ x < 0) (hm : x.toNatClampNeg = m) (hb : m ≤ 50000000) (h : am_R E d mX10_init k n 9 ls (.ref S.2.2.2 :: st) (am_new S (.inr (am_S0, m))) (am_0 S iv) Q) : am_R E d mX10_init (k + 1) (n + m) 6 ls (.int x :: st) S iv Q := am_anew dX10_init_6 wq_768 hx hm (by omega) (by omega) (by omega) h
theorem sX10_init_9 {ls : List Value} {x : Value} (hv : x.category = 1) (h : am_R E d mX10_init k n 10 ls (x :: x :: st) S iv Q) : am_R E d mX10_init k n 9 ls (x :: st) S iv Q := am_dup dX10_init_9 hv h
theorem sX10_init_10 {a0 : Value} (h : am_R E d mX10_init k n 11 [a0] (.int 0 :: st) S iv Q) : am_R E d mX10_init k n 10 [a0] st S iv Q := am_iconst dX10_init_10 (by decide) h
theorem sX10_init_11 {a0 : Value} (h : am_R E d mX10_init k n 13 [a0] (.retAddr 35 :: st) S iv Q) : am_R E d mX10_init k n 11 [a0] st S iv Q := am_ldcS (tx := "home") dX10_init_11 (List.mem_of_getElem? (i := 35) rfl) h
theorem sX10_init_13 {ls : List Value} {a m j : Nat} {i : Int32} (ha : S.1 a = some (.inr (am_S0, m))) (hi : vp_in i m) (hj : j < am_by.length) (h : am_R E d mX10_init k n 14 ls st (am_wr S a i.toNatClampNeg j) iv Q) : am_R E d mX10_init k n 13 ls (.retAddr j :: .int i :: .ref a :: st) S iv Q := am_aastore dX10_init_13 ha hi hj h
theorem sX10_init_14 {ls : List Value} {x : Value} (hv : x.category = 1) (h : am_R E d mX10_init k n 15 ls (x :: x :: st) S iv Q) : am_R E d mX10_init k n 14 ls (x :: st) S iv Q := am_dup dX10_init_14 hv h
theorem sX10_init_15 {a0 : Value} (h : am_R E d mX10_init k n 16 [a0] (.int 1 :: st) S iv Q) : am_R E d mX10_init k n 15 [a0] st S iv Q := am_iconst dX10_init_15 (by decide) h
theorem sX10_init_16 {a0 : Value} (h : am_R E d mX10_init k n 18 [a0] (.retAddr 36 :: st) S iv Q) : am_R E d mX10_init k n 16 [a0] st S iv Q := am_ldcS (tx := "shop") dX10_init_16 (List.mem_of_getElem? (i := 36) rfl) h
theorem sX10_init_18 {ls : List Value} {a m j : Nat} {i : Int32} (ha : S.1 a = some (.inr (am_S0, m))) (hi : vp_in i m) (hj : j < am_by.length) (h : am_R E d mX10_init k n 19 ls st (am_wr S a i.toNatClampNeg j) iv Q) : am_R E d mX10_init k n 18 ls (.retAddr j :: .int i :: .ref a :: st) S iv Q := am_aastore dX10_init_18 ha hi hj h
theorem sX10_init_19 {ls : List Value} {x : Value} (hv : x.category = 1) (h : am_R E d mX10_init k n 20 ls (x :: x :: st) S iv Q) : am_R E d mX10_init k n 19 ls (x :: st) S iv Q := am_dup dX10_init_19 hv h
theorem sX10_init_20 {a0 : Value} (h : am_R E d mX10_init k n 21 [a0] (.int 2 :: st) S iv Q) : am_R E d mX10_init k n 20 [a0] st S iv Q := am_iconst dX10_init_20 (by decide) h
theorem sX10_init_21 {a0 : Value} (h : am_R E d mX10_init k n 23 [a0] (.retAddr 37 :: st) S iv Q) : am_R E d mX10_init k n 21 [a0] st S iv Q := am_ldcS (tx := "grave") dX10_init_21 (List.mem_of_getElem? (i := 37) rfl) h
theorem sX10_init_23 {ls : List Value} {a m j : Nat} {i : Int32} (ha : S.1 a = some (.inr (am_S0, m))) (hi : vp_in i m) (hj : j < am_by.length) (h : am_R E d mX10_init k n 24 ls st (am_wr S a i.toNatClampNeg j) iv Q) : am_R E d mX10_init k n 23 ls (.retAddr j :: .int i :: .ref a :: st) S iv Q := am_aastore dX10_init_23 ha hi hj h
theorem sX10_init_24 {ls : List Value} {x : Value} (hv : x.category = 1) (h : am_R E d mX10_init k n 25 ls (x :: x :: st) S iv Q) : am_R E d mX10_init k n 24 ls (x :: st) S iv Q := am_dup dX10_init_24 hv h
theorem sX10_init_25 {a0 : Value} (h : am_R E d mX10_init k n 26 [a0] (.int 3 :: st) S iv Q) : am_R E d mX10_init k n 25 [a0] st S iv Q := am_iconst dX10_init_25 (by decide) h
theorem sX10_init_26 {a0 : Value} (h : am_R E d mX10_init k n 28 [a0] (.retAddr 38 :: st) S iv Q) : am_R E d mX10_init k n 26 [a0] st S iv Q := am_ldcS (tx := "stove") dX10_init_26 (List.mem_of_getElem? (i := 38) rfl) h
theorem sX10_init_28 {ls : List Value} {a m j : Nat} {i : Int32} (ha : S.1 a = some (.inr (am_S0, m))) (hi : vp_in i m) (hj : j < am_by.length) (h : am_R E d mX10_init k n 29 ls st (am_wr S a i.toNatClampNeg j) iv Q) : am_R E d mX10_init k n 28 ls (.retAddr j :: .int i :: .ref a :: st) S iv Q := am_aastore dX10_init_28 ha hi hj h
theorem sX10_init_29 {ls : List Value} {a b : Nat} (ha : S.1 a = some (.inl 10)) (h : am_R E d mX10_init k n 32 ls st (am_wr S a 0 b) iv Q) : am_R E d mX10_init k n 29 ls (.ref b :: .ref a :: st) S iv Q := am_putR (ci := 10) dX10_init_29 rfl rfl (by decide) wq_769 uq_10 tyX10_ok nmX10 (Or.inr ⟨rfl, rfl, rfl⟩) rfl ha h
theorem sX10_init_32 {a0 : Value} (hv : am_rf a0 = true) (h : am_R E d mX10_init k n 33 [a0] (a0 :: st) S iv Q) : am_R E d mX10_init k n 32 [a0] st S iv Q := am_aload_n dX10_init_32 rfl rfl hv h
theorem sX10_init_33 {a0 : Value} (h : am_R E d mX10_init k n 34 [a0] (.int 3 :: st) S iv Q) : am_R E d mX10_init k n 33 [a0] st S iv Q := am_iconst dX10_init_33 (by decide) h
theorem sX10_init_34 {ls : List Value} {x : Int32} {m : Nat} (hx : ¬ x < 0) (hm : x.toNatClampNeg = m) (hb : m ≤ 50000000) (h : am_R E d mX10_init k n 37 ls (.ref S.2.2.2 :: st) (am_new S (.inr (am_S0, m))) (am_0 S iv) Q) : am_R E d mX10_init (k + 1) (n + m) 34 ls (.int x :: st) S iv Q := am_anew dX10_init_34 wq_768 hx hm (by omega) (by omega) (by omega) h
theorem sX10_init_37 {ls : List Value} {x : Value} (hv : x.category = 1) (h : am_R E d mX10_init k n 38 ls (x :: x :: st) S iv Q) : am_R E d mX10_init k n 37 ls (x :: st) S iv Q := am_dup dX10_init_37 hv h
theorem sX10_init_38 {a0 : Value} (h : am_R E d mX10_init k n 39 [a0] (.int 0 :: st) S iv Q) : am_R E d mX10_init k n 38 [a0] st S iv Q := am_iconst dX10_init_38 (by decide) h
theorem sX10_init_39 {a0 : Value} (h : am_R E d mX10_init k n 41 [a0] (.retAddr 39 :: st) S iv Q) : am_R E d mX10_init k n 39 [a0] st S iv Q := am_ldcS (tx := "reach") dX10_init_39 (List.mem_of_getElem? (i := 39) rfl) h
theorem sX10_init_41 {ls : List Value} {a m j : Nat} {i : Int32} (ha : S.1 a = some (.inr (am_S0, m))) (hi : vp_in i m) (hj : j < am_by.length) (h : am_R E d mX10_init k n 42 ls st (am_wr S a i.toNatClampNeg j) iv Q) : am_R E d mX10_init k n 41 ls (.retAddr j :: .int i :: .ref a :: st) S iv Q := am_aastore dX10_init_41 ha hi hj h
theorem sX10_init_42 {ls : List Value} {x : Value} (hv : x.category = 1) (h : am_R E d mX10_init k n 43 ls (x :: x :: st) S iv Q) : am_R E d mX10_init k n 42 ls (x :: st) S iv Q := am_dup dX10_init_42 hv h
theorem sX10_init_43 {a0 : Value} (h : am_R E d mX10_init k n 44 [a0] (.int 1 :: st) S iv Q) : am_R E d mX10_init k n 43 [a0] st S iv Q := am_iconst dX10_init_43 (by decide) h
theorem sX10_init_44 {a0 : Value} (h : am_R E d mX10_init k n 46 [a0] (.retAddr 40 :: st) S iv Q) : am_R E d mX10_init k n 44 [a0] st S iv Q := am_ldcS (tx := "rent") dX10_init_44 (List.mem_of_getElem? (i := 40) rfl) h
theorem sX10_init_46 {ls : List Value} {a m j : Nat} {i : Int32} (ha : S.1 a = some (.inr (am_S0, m))) (hi : vp_in i m) (hj : j < am_by.length) (h : am_R E d mX10_init k n 47 ls st (am_wr S a i.toNatClampNeg j) iv Q) : am_R E d mX10_init k n 46 ls (.retAddr j :: .int i :: .ref a :: st) S iv Q := am_aastore dX10_init_46 ha hi hj h
theorem sX10_init_47 {ls : List Value} {x : Value} (hv : x.category = 1) (h : am_R E d mX10_init k n 48 ls (x :: x :: st) S iv Q) : am_R E d mX10_init k n 47 ls (x :: st) S iv Q := am_dup dX10_init_47 hv h
theorem sX10_init_48 {a0 : Value} (h : am_R E d mX10_init k n 49 [a0] (.int 2 :: st) S iv Q) : am_R E d mX10_init k n 48 [a0] st S iv Q := am_iconst dX10_init_48 (by decide) h
theorem sX10_init_49 {a0 : Value} (h : am_R E d mX10_init k n 51 [a0] (.retAddr 41 :: st) S iv Q) : am_R E d mX10_init k n 49 [a0] st S iv Q := am_ldcS (tx := "wind") dX10_init_49 (List.mem_of_getElem? (i := 41) rfl) h
theorem sX10_init_51 {ls : List Value} {a m j : Nat} {i : Int32} (ha : S.1 a = some (.inr (am_S0, m))) (hi : vp_in i m) (hj : j < am_by.length) (h : am_R E d mX10_init k n 52 ls st (am_wr S a i.toNatClampNeg j) iv Q) : am_R E d mX10_init k n 51 ls (.retAddr j :: .int i :: .ref a :: st) S iv Q := am_aastore dX10_init_51 ha hi hj h
theorem sX10_init_52 {ls : List Value} {a b : Nat} (ha : S.1 a = some (.inl 10)) (h : am_R E d mX10_init k n 55 ls st (am_wr S a 1 b) iv Q) : am_R E d mX10_init k n 52 ls (.ref b :: .ref a :: st) S iv Q := am_putR (ci := 10) dX10_init_52 rfl rfl (by decide) wq_770 uq_10 tyX10_ok nmX10 (Or.inr ⟨rfl, rfl, rfl⟩) rfl ha h
theorem sX10_init_55 {a0 : Value} (hv : am_rf a0 = true) (h : am_R E d mX10_init k n 56 [a0] (a0 :: st) S iv Q) : am_R E d mX10_init k n 55 [a0] st S iv Q := am_aload_n dX10_init_55 rfl rfl hv h
theorem sX10_init_56 {a0 : Value} (h : am_R E d mX10_init k n 58 [a0] (.int 7 :: st) S iv Q) : am_R E d mX10_init k n 56 [a0] st S iv Q := am_bipush dX10_init_56 (by decide) h
theorem sX10_init_58 {ls : List Value} {x : Int32} {m : Nat} (hx : ¬ x < 0) (hm : x.toNatClampNeg = m) (hb : m ≤ 50000000) (h : am_R E d mX10_init k n 61 ls (.ref S.2.2.2 :: st) (am_new S (.inr (am_S0, m))) (am_0 S iv) Q) : am_R E d mX10_init (k + 1) (n + m) 58 ls (.int x :: st) S iv Q := am_anew dX10_init_58 wq_768 hx hm (by omega) (by omega) (by omega) h
theorem sX10_init_61 {ls : List Value} {x : Value} (hv : x.category = 1) (h : am_R E d mX10_init k n 62 ls (x :: x :: st) S iv Q) : am_R E d mX10_init k n 61 ls (x :: st) S iv Q := am_dup dX10_init_61 hv h
theorem sX10_init_62 {a0 : Value} (h : am_R E d mX10_init k n 63 [a0] (.int 0 :: st) S iv Q) : am_R E d mX10_init k n 62 [a0] st S iv Q := am_iconst dX10_init_62 (by decide) h
theorem sX10_init_63 {a0 : Value} (h : am_R E d mX10_init k n 65 [a0] (.retAddr 42 :: st) S iv Q) : am_R E d mX10_init k n 63 [a0] st S iv Q := am_ldcS (tx := "column") dX10_init_63 (List.mem_of_getElem? (i := 42) rfl) h
theorem sX10_init_65 {ls : List Value} {a m j : Nat} {i : Int32} (ha : S.1 a = some (.inr (am_S0, m))) (hi : vp_in i m) (hj : j < am_by.length) (h : am_R E d mX10_init k n 66 ls st (am_wr S a i.toNatClampNeg j) iv Q) : am_R E d mX10_init k n 65 ls (.retAddr j :: .int i :: .ref a :: st) S iv Q := am_aastore dX10_init_65 ha hi hj h
theorem sX10_init_66 {ls : List Value} {x : Value} (hv : x.category = 1) (h : am_R E d mX10_init k n 67 ls (x :: x :: st) S iv Q) : am_R E d mX10_init k n 66 ls (x :: st) S iv Q := am_dup dX10_init_66 hv h
theorem sX10_init_67 {a0 : Value} (h : am_R E d mX10_init k n 68 [a0] (.int 1 :: st) S iv Q) : am_R E d mX10_init k n 67 [a0] st S iv Q := am_iconst dX10_init_67 (by decide) h
theorem sX10_init_68 {a0 : Value} (h : am_R E d mX10_init k n 70 [a0] (.retAddr 43 :: st) S iv Q) : am_R E d mX10_init k n 68 [a0] st S iv Q := am_ldcS (tx := "story") dX10_init_68 (List.mem_of_getElem? (i := 43) rfl) h
theorem sX10_init_70 {ls : List Value} {a m j : Nat} {i : Int32} (ha : S.1 a = some (.inr (am_S0, m))) (hi : vp_in i m) (hj : j < am_by.length) (h : am_R E d mX10_init k n 71 ls st (am_wr S a i.toNatClampNeg j) iv Q) : am_R E d mX10_init k n 70 ls (.retAddr j :: .int i :: .ref a :: st) S iv Q := am_aastore dX10_init_70 ha hi hj h
theorem sX10_init_71 {ls : List Value} {x : Value} (hv : x.category = 1) (h : am_R E d mX10_init k n 72 ls (x :: x :: st) S iv Q) : am_R E d mX10_init k n 71 ls (x :: st) S iv Q := am_dup dX10_init_71 hv h
theorem sX10_init_72 {a0 : Value} (h : am_R E d mX10_init k n 73 [a0] (.int 2 :: st) S iv Q) : am_R E d mX10_init k n 72 [a0] st S iv Q := am_iconst dX10_init_72 (by decide) h
theorem sX10_init_73 {a0 : Value} (h : am_R E d mX10_init k n 75 [a0] (.retAddr 44 :: st) S iv Q) : am_R E d mX10_init k n 73 [a0] st S iv Q := am_ldcS (tx := "length") dX10_init_73 (List.mem_of_getElem? (i := 44) rfl) h
theorem sX10_init_75 {ls : List Value} {a m j : Nat} {i : Int32} (ha : S.1 a = some (.inr (am_S0, m))) (hi : vp_in i m) (hj : j < am_by.length) (h : am_R E d mX10_init k n 76 ls st (am_wr S a i.toNatClampNeg j) iv Q) : am_R E d mX10_init k n 75 ls (.retAddr j :: .int i :: .ref a :: st) S iv Q := am_aastore dX10_init_75 ha hi hj h
theorem sX10_init_76 {ls : List Value} {x : Value} (hv : x.category = 1) (h : am_R E d mX10_init k n 77 ls (x :: x :: st) S iv Q) : am_R E d mX10_init k n 76 ls (x :: st) S iv Q := am_dup dX10_init_76 hv h
theorem sX10_init_77 {a0 : Value} (h : am_R E d mX10_init k n 78 [a0] (.int 3 :: st) S iv Q) : am_R E d mX10_init k n 77 [a0] st S iv Q := am_iconst dX10_init_77 (by decide) h
theorem sX10_init_78 {a0 : Value} (h : am_R E d mX10_init k n 80 [a0] (.retAddr 45 :: st) S iv Q) : am_R E d mX10_init k n 78 [a0] st S iv Q := am_ldcS (tx := "kind") dX10_init_78 (List.mem_of_getElem? (i := 45) rfl) h
theorem sX10_init_80 {ls : List Value} {a m j : Nat} {i : Int32} (ha : S.1 a = some (.inr (am_S0, m))) (hi : vp_in i m) (hj : j < am_by.length) (h : am_R E d mX10_init k n 81 ls st (am_wr S a i.toNatClampNeg j) iv Q) : am_R E d mX10_init k n 80 ls (.retAddr j :: .int i :: .ref a :: st) S iv Q := am_aastore dX10_init_80 ha hi hj h
theorem sX10_init_81 {ls : List Value} {x : Value} (hv : x.category = 1) (h : am_R E d mX10_init k n 82 ls (x :: x :: st) S iv Q) : am_R E d mX10_init k n 81 ls (x :: st) S iv Q := am_dup dX10_init_81 hv h
theorem sX10_init_82 {a0 : Value} (h : am_R E d mX10_init k n 83 [a0] (.int 4 :: st) S iv Q) : am_R E d mX10_init k n 82 [a0] st S iv Q := am_iconst dX10_init_82 (by decide) h
theorem sX10_init_83 {a0 : Value} (h : am_R E d mX10_init k n 85 [a0] (.retAddr 46 :: st) S iv Q) : am_R E d mX10_init k n 83 [a0] st S iv Q := am_ldcS (tx := "out") dX10_init_83 (List.mem_of_getElem? (i := 46) rfl) h
theorem sX10_init_85 {ls : List Value} {a m j : Nat} {i : Int32} (ha : S.1 a = some (.inr (am_S0, m))) (hi : vp_in i m) (hj : j < am_by.length) (h : am_R E d mX10_init k n 86 ls st (am_wr S a i.toNatClampNeg j) iv Q) : am_R E d mX10_init k n 85 ls (.retAddr j :: .int i :: .ref a :: st) S iv Q := am_aastore dX10_init_85 ha hi hj h
theorem sX10_init_86 {ls : List Value} {x : Value} (hv : x.category = 1) (h : am_R E d mX10_init k n 87 ls (x :: x :: st) S iv Q) : am_R E d mX10_init k n 86 ls (x :: st) S iv Q := am_dup dX10_init_86 hv h
theorem sX10_init_87 {a0 : Value} (h : am_R E d mX10_init k n 88 [a0] (.int 5 :: st) S iv Q) : am_R E d mX10_init k n 87 [a0] st S iv Q := am_iconst dX10_init_87 (by decide) h
theorem sX10_init_88 {a0 : Value} (h : am_R E d mX10_init k n 90 [a0] (.retAddr 47 :: st) S iv Q) : am_R E d mX10_init k n 88 [a0] st S iv Q := am_ldcS (tx := "shops") dX10_init_88 (List.mem_of_getElem? (i := 47) rfl) h
theorem sX10_init_90 {ls : List Value} {a m j : Nat} {i : Int32} (ha : S.1 a = some (.inr (am_S0, m))) (hi : vp_in i m) (hj : j < am_by.length) (h : am_R E d mX10_init k n 91 ls st (am_wr S a i.toNatClampNeg j) iv Q) : am_R E d mX10_init k n 90 ls (.retAddr j :: .int i :: .ref a :: st) S iv Q := am_aastore dX10_init_90 ha hi hj h
theorem sX10_init_91 {ls : List Value} {x : Value} (hv : x.category = 1) (h : am_R E d mX10_init k n 92 ls (x :: x :: st) S iv Q) : am_R E d mX10_init k n 91 ls (x :: st) S iv Q := am_dup dX10_init_91 hv h
theorem sX10_init_92 {a0 : Value} (h : am_R E d mX10_init k n 94 [a0] (.int 6 :: st) S iv Q) : am_R E d mX10_init k n 92 [a0] st S iv Q := am_bipush dX10_init_92 (by decide) h
theorem sX10_init_94 {a0 : Value} (h : am_R E d mX10_init k n 96 [a0] (.retAddr 48 :: st) S iv Q) : am_R E d mX10_init k n 94 [a0] st S iv Q := am_ldcS (tx := "above") dX10_init_94 (List.mem_of_getElem? (i := 48) rfl) h
theorem sX10_init_96 {ls : List Value} {a m j : Nat} {i : Int32} (ha : S.1 a = some (.inr (am_S0, m))) (hi : vp_in i m) (hj : j < am_by.length) (h : am_R E d mX10_init k n 97 ls st (am_wr S a i.toNatClampNeg j) iv Q) : am_R E d mX10_init k n 96 ls (.retAddr j :: .int i :: .ref a :: st) S iv Q := am_aastore dX10_init_96 ha hi hj h
theorem sX10_init_97 {ls : List Value} {a b : Nat} (ha : S.1 a = some (.inl 10)) (h : am_R E d mX10_init k n 100 ls st (am_wr S a 2 b) iv Q) : am_R E d mX10_init k n 97 ls (.ref b :: .ref a :: st) S iv Q := am_putR (ci := 10) dX10_init_97 rfl rfl (by decide) wq_771 uq_10 tyX10_ok nmX10 (Or.inr ⟨rfl, rfl, rfl⟩) rfl ha h
theorem sX10_init_100 {a0 : Value} (hv : am_rf a0 = true) (h : am_R E d mX10_init k n 101 [a0] (a0 :: st) S iv Q) : am_R E d mX10_init k n 100 [a0] st S iv Q := am_aload_n dX10_init_100 rfl rfl hv h
theorem sX10_init_101 {a0 : Value} (h : am_R E d mX10_init k n 103 [a0] (.int 20 :: st) S iv Q) : am_R E d mX10_init k n 101 [a0] st S iv Q := am_bipush dX10_init_101 (by decide) h
theorem sX10_init_103 {ls : List Value} {x : Int32} {m : Nat} (hx : ¬ x < 0) (hm : x.toNatClampNeg = m) (hb : m ≤ 50000000) (h : am_R E d mX10_init k n 105 ls (.ref S.2.2.2 :: st) (am_new S (.inr (.int, m))) (am_0 S iv) Q) : am_R E d mX10_init (k + 1) (n + m) 103 ls (.int x :: st) S iv Q := am_nI dX10_init_103 wq_65 hx hm (by omega) (by omega) (by omega) h
theorem sX10_init_105 {ls : List Value} {x : Value} (hv : x.category = 1) (h : am_R E d mX10_init k n 106 ls (x :: x :: st) S iv Q) : am_R E d mX10_init k n 105 ls (x :: st) S iv Q := am_dup dX10_init_105 hv h
theorem sX10_init_106 {a0 : Value} (h : am_R E d mX10_init k n 107 [a0] (.int 0 :: st) S iv Q) : am_R E d mX10_init k n 106 [a0] st S iv Q := am_iconst dX10_init_106 (by decide) h
theorem sX10_init_107 {a0 : Value} (h : am_R E d mX10_init k n 108 [a0] (.int 3 :: st) S iv Q) : am_R E d mX10_init k n 107 [a0] st S iv Q := am_iconst dX10_init_107 (by decide) h
theorem sX10_init_108 {ls : List Value} {a m : Nat} {i x : Int32} (ha : S.1 a = some (.inr (.int, m))) (hi : vp_in i m) (h : am_R E d mX10_init k n 109 ls st S (am_w iv a i.toNatClampNeg x) Q) : am_R E d mX10_init k n 108 ls (.int x :: .int i :: .ref a :: st) S iv Q := am_iastore dX10_init_108 ha hi h
theorem sX10_init_109 {ls : List Value} {x : Value} (hv : x.category = 1) (h : am_R E d mX10_init k n 110 ls (x :: x :: st) S iv Q) : am_R E d mX10_init k n 109 ls (x :: st) S iv Q := am_dup dX10_init_109 hv h
theorem sX10_init_110 {a0 : Value} (h : am_R E d mX10_init k n 111 [a0] (.int 1 :: st) S iv Q) : am_R E d mX10_init k n 110 [a0] st S iv Q := am_iconst dX10_init_110 (by decide) h
theorem sX10_init_111 {a0 : Value} (h : am_R E d mX10_init k n 112 [a0] (.int 4 :: st) S iv Q) : am_R E d mX10_init k n 111 [a0] st S iv Q := am_iconst dX10_init_111 (by decide) h
theorem sX10_init_112 {ls : List Value} {a m : Nat} {i x : Int32} (ha : S.1 a = some (.inr (.int, m))) (hi : vp_in i m) (h : am_R E d mX10_init k n 113 ls st S (am_w iv a i.toNatClampNeg x) Q) : am_R E d mX10_init k n 112 ls (.int x :: .int i :: .ref a :: st) S iv Q := am_iastore dX10_init_112 ha hi h
theorem sX10_init_113 {ls : List Value} {x : Value} (hv : x.category = 1) (h : am_R E d mX10_init k n 114 ls (x :: x :: st) S iv Q) : am_R E d mX10_init k n 113 ls (x :: st) S iv Q := am_dup dX10_init_113 hv h
theorem sX10_init_114 {a0 : Value} (h : am_R E d mX10_init k n 115 [a0] (.int 2 :: st) S iv Q) : am_R E d mX10_init k n 114 [a0] st S iv Q := am_iconst dX10_init_114 (by decide) h
theorem sX10_init_115 {a0 : Value} (h : am_R E d mX10_init k n 116 [a0] (.int 0 :: st) S iv Q) : am_R E d mX10_init k n 115 [a0] st S iv Q := am_iconst dX10_init_115 (by decide) h
theorem sX10_init_116 {ls : List Value} {a m : Nat} {i x : Int32} (ha : S.1 a = some (.inr (.int, m))) (hi : vp_in i m) (h : am_R E d mX10_init k n 117 ls st S (am_w iv a i.toNatClampNeg x) Q) : am_R E d mX10_init k n 116 ls (.int x :: .int i :: .ref a :: st) S iv Q := am_iastore dX10_init_116 ha hi h
theorem sX10_init_117 {ls : List Value} {x : Value} (hv : x.category = 1) (h : am_R E d mX10_init k n 118 ls (x :: x :: st) S iv Q) : am_R E d mX10_init k n 117 ls (x :: st) S iv Q := am_dup dX10_init_117 hv h
theorem sX10_init_118 {a0 : Value} (h : am_R E d mX10_init k n 119 [a0] (.int 3 :: st) S iv Q) : am_R E d mX10_init k n 118 [a0] st S iv Q := am_iconst dX10_init_118 (by decide) h
theorem sX10_init_119 {a0 : Value} (h : am_R E d mX10_init k n 120 [a0] (.int 0 :: st) S iv Q) : am_R E d mX10_init k n 119 [a0] st S iv Q := am_iconst dX10_init_119 (by decide) h
theorem sX10_init_120 {ls : List Value} {a m : Nat} {i x : Int32} (ha : S.1 a = some (.inr (.int, m))) (hi : vp_in i m) (h : am_R E d mX10_init k n 121 ls st S (am_w iv a i.toNatClampNeg x) Q) : am_R E d mX10_init k n 120 ls (.int x :: .int i :: .ref a :: st) S iv Q := am_iastore dX10_init_120 ha hi h
theorem sX10_init_121 {ls : List Value} {x : Value} (hv : x.category = 1) (h : am_R E d mX10_init k n 122 ls (x :: x :: st) S iv Q) : am_R E d mX10_init k n 121 ls (x :: st) S iv Q := am_dup dX10_init_121 hv h
theorem sX10_init_122 {a0 : Value} (h : am_R E d mX10_init k n 123 [a0] (.int 4 :: st) S iv Q) : am_R E d mX10_init k n 122 [a0] st S iv Q := am_iconst dX10_init_122 (by decide) h
theorem sX10_init_123 {a0 : Value} (h : am_R E d mX10_init k n 124 [a0] (.int 2 :: st) S iv Q) : am_R E d mX10_init k n 123 [a0] st S iv Q := am_iconst dX10_init_123 (by decide) h
theorem sX10_init_124 {ls : List Value} {a m : Nat} {i x : Int32} (ha : S.1 a = some (.inr (.int, m))) (hi : vp_in i m) (h : am_R E d mX10_init k n 125 ls st S (am_w iv a i.toNatClampNeg x) Q) : am_R E d mX10_init k n 124 ls (.int x :: .int i :: .ref a :: st) S iv Q := am_iastore dX10_init_124 ha hi h
theorem sX10_init_125 {ls : List Value} {x : Value} (hv : x.category = 1) (h : am_R E d mX10_init k n 126 ls (x :: x :: st) S iv Q) : am_R E d mX10_init k n 125 ls (x :: st) S iv Q := am_dup dX10_init_125 hv h
theorem sX10_init_126 {a0 : Value} (h : am_R E d mX10_init k n 127 [a0] (.int 5 :: st) S iv Q) : am_R E d mX10_init k n 126 [a0] st S iv Q := am_iconst dX10_init_126 (by decide) h
theorem sX10_init_127 {a0 : Value} (h : am_R E d mX10_init k n 128 [a0] (.int 0 :: st) S iv Q) : am_R E d mX10_init k n 127 [a0] st S iv Q := am_iconst dX10_init_127 (by decide) h
theorem sX10_init_128 {ls : List Value} {a m : Nat} {i x : Int32} (ha : S.1 a = some (.inr (.int, m))) (hi : vp_in i m) (h : am_R E d mX10_init k n 129 ls st S (am_w iv a i.toNatClampNeg x) Q) : am_R E d mX10_init k n 128 ls (.int x :: .int i :: .ref a :: st) S iv Q := am_iastore dX10_init_128 ha hi h
theorem sX10_init_129 {ls : List Value} {x : Value} (hv : x.category = 1) (h : am_R E d mX10_init k n 130 ls (x :: x :: st) S iv Q) : am_R E d mX10_init k n 129 ls (x :: st) S iv Q := am_dup dX10_init_129 hv h
theorem sX10_init_130 {a0 : Value} (h : am_R E d mX10_init k n 132 [a0] (.int 6 :: st) S iv Q) : am_R E d mX10_init k n 130 [a0] st S iv Q := am_bipush dX10_init_130 (by decide) h
theorem sX10_init_132 {a0 : Value} (h : am_R E d mX10_init k n 133 [a0] (.int 0 :: st) S iv Q) : am_R E d mX10_init k n 132 [a0] st S iv Q := am_iconst dX10_init_132 (by decide) h
theorem sX10_init_133 {ls : List Value} {a m : Nat} {i x : Int32} (ha : S.1 a = some (.inr (.int, m))) (hi : vp_in i m) (h : am_R E d mX10_init k n 134 ls st S (am_w iv a i.toNatClampNeg x) Q) : am_R E d mX10_init k n 133 ls (.int x :: .int i :: .ref a :: st) S iv Q := am_iastore dX10_init_133 ha hi h
theorem sX10_init_134 {ls : List Value} {x : Value} (hv : x.category = 1) (h : am_R E d mX10_init k n 135 ls (x :: x :: st) S iv Q) : am_R E d mX10_init k n 134 ls (x :: st) S iv Q := am_dup dX10_init_134 hv h
theorem sX10_init_135 {a0 : Value} (h : am_R E d mX10_init k n 137 [a0] (.int 7 :: st) S iv Q) : am_R E d mX10_init k n 135 [a0] st S iv Q := am_bipush dX10_init_135 (by decide) h
theorem sX10_init_137 {a0 : Value} (h : am_R E d mX10_init k n 138 [a0] (.int 0 :: st) S iv Q) : am_R E d mX10_init k n 137 [a0] st S iv Q := am_iconst dX10_init_137 (by decide) h
theorem sX10_init_138 {ls : List Value} {a m : Nat} {i x : Int32} (ha : S.1 a = some (.inr (.int, m))) (hi : vp_in i m) (h : am_R E d mX10_init k n 139 ls st S (am_w iv a i.toNatClampNeg x) Q) : am_R E d mX10_init k n 138 ls (.int x :: .int i :: .ref a :: st) S iv Q := am_iastore dX10_init_138 ha hi h
theorem sX10_init_139 {ls : List Value} {x : Value} (hv : x.category = 1) (h : am_R E d mX10_init k n 140 ls (x :: x :: st) S iv Q) : am_R E d mX10_init k n 139 ls (x :: st) S iv Q := am_dup dX10_init_139 hv h
theorem sX10_init_140 {a0 : Value} (h : am_R E d mX10_init k n 142 [a0] (.int 8 :: st) S iv Q) : am_R E d mX10_init k n 140 [a0] st S iv Q := am_bipush dX10_init_140 (by decide) h
theorem sX10_init_142 {a0 : Value} (h : am_R E d mX10_init k n 143 [a0] (.int 0 :: st) S iv Q) : am_R E d mX10_init k n 142 [a0] st S iv Q := am_iconst dX10_init_142 (by decide) h
theorem sX10_init_143 {ls : List Value} {a m : Nat} {i x : Int32} (ha : S.1 a = some (.inr (.int, m))) (hi : vp_in i m) (h : am_R E d mX10_init k n 144 ls st S (am_w iv a i.toNatClampNeg x) Q) : am_R E d mX10_init k n 143 ls (.int x :: .int i :: .ref a :: st) S iv Q := am_iastore dX10_init_143 ha hi h
theorem sX10_init_144 {ls : List Value} {x : Value} (hv : x.category = 1) (h : am_R E d mX10_init k n 145 ls (x :: x :: st) S iv Q) : am_R E d mX10_init k n 144 ls (x :: st) S iv Q := am_dup dX10_init_144 hv h
theorem sX10_init_145 {a0 : Value} (h : am_R E d mX10_init k n 147 [a0] (.int 9 :: st) S iv Q) : am_R E d mX10_init k n 145 [a0] st S iv Q := am_bipush dX10_init_145 (by decide) h
theorem sX10_init_147 {a0 : Value} (h : am_R E d mX10_init k n 148 [a0] (.int 0 :: st) S iv Q) : am_R E d mX10_init k n 147 [a0] st S iv Q := am_iconst dX10_init_147 (by decide) h
theorem sX10_init_148 {ls : List Value} {a m : Nat} {i x : Int32} (ha : S.1 a = some (.inr (.int, m))) (hi : vp_in i m) (h : am_R E d mX10_init k n 149 ls st S (am_w iv a i.toNatClampNeg x) Q) : am_R E d mX10_init k n 148 ls (.int x :: .int i :: .ref a :: st) S iv Q := am_iastore dX10_init_148 ha hi h
theorem sX10_init_149 {ls : List Value} {x : Value} (hv : x.category = 1) (h : am_R E d mX10_init k n 150 ls (x :: x :: st) S iv Q) : am_R E d mX10_init k n 149 ls (x :: st) S iv Q := am_dup dX10_init_149 hv h
theorem sX10_init_150 {a0 : Value} (h : am_R E d mX10_init k n 152 [a0] (.int 10 :: st) S iv Q) : am_R E d mX10_init k n 150 [a0] st S iv Q := am_bipush dX10_init_150 (by decide) h
theorem sX10_init_152 {a0 : Value} (h : am_R E d mX10_init k n 153 [a0] (.int 3 :: st) S iv Q) : am_R E d mX10_init k n 152 [a0] st S iv Q := am_iconst dX10_init_152 (by decide) h
theorem sX10_init_153 {ls : List Value} {a m : Nat} {i x : Int32} (ha : S.1 a = some (.inr (.int, m))) (hi : vp_in i m) (h : am_R E d mX10_init k n 154 ls st S (am_w iv a i.toNatClampNeg x) Q) : am_R E d mX10_init k n 153 ls (.int x :: .int i :: .ref a :: st) S iv Q := am_iastore dX10_init_153 ha hi h
theorem sX10_init_154 {ls : List Value} {x : Value} (hv : x.category = 1) (h : am_R E d mX10_init k n 155 ls (x :: x :: st) S iv Q) : am_R E d mX10_init k n 154 ls (x :: st) S iv Q := am_dup dX10_init_154 hv h
theorem sX10_init_155 {a0 : Value} (h : am_R E d mX10_init k n 157 [a0] (.int 11 :: st) S iv Q) : am_R E d mX10_init k n 155 [a0] st S iv Q := am_bipush dX10_init_155 (by decide) h
theorem sX10_init_157 {a0 : Value} (h : am_R E d mX10_init k n 158 [a0] (.int 4 :: st) S iv Q) : am_R E d mX10_init k n 157 [a0] st S iv Q := am_iconst dX10_init_157 (by decide) h
theorem sX10_init_158 {ls : List Value} {a m : Nat} {i x : Int32} (ha : S.1 a = some (.inr (.int, m))) (hi : vp_in i m) (h : am_R E d mX10_init k n 159 ls st S (am_w iv a i.toNatClampNeg x) Q) : am_R E d mX10_init k n 158 ls (.int x :: .int i :: .ref a :: st) S iv Q := am_iastore dX10_init_158 ha hi h
theorem sX10_init_159 {ls : List Value} {x : Value} (hv : x.category = 1) (h : am_R E d mX10_init k n 160 ls (x :: x :: st) S iv Q) : am_R E d mX10_init k n 159 ls (x :: st) S iv Q := am_dup dX10_init_159 hv h
theorem sX10_init_160 {a0 : Value} (h : am_R E d mX10_init k n 162 [a0] (.int 12 :: st) S iv Q) : am_R E d mX10_init k n 160 [a0] st S iv Q := am_bipush dX10_init_160 (by decide) h
theorem sX10_init_162 {a0 : Value} (h : am_R E d mX10_init k n 163 [a0] (.int 0 :: st) S iv Q) : am_R E d mX10_init k n 162 [a0] st S iv Q := am_iconst dX10_init_162 (by decide) h
theorem sX10_init_163 {ls : List Value} {a m : Nat} {i x : Int32} (ha : S.1 a = some (.inr (.int, m))) (hi : vp_in i m) (h : am_R E d mX10_init k n 164 ls st S (am_w iv a i.toNatClampNeg x) Q) : am_R E d mX10_init k n 163 ls (.int x :: .int i :: .ref a :: st) S iv Q := am_iastore dX10_init_163 ha hi h
theorem sX10_init_164 {ls : List Value} {x : Value} (hv : x.category = 1) (h : am_R E d mX10_init k n 165 ls (x :: x :: st) S iv Q) : am_R E d mX10_init k n 164 ls (x :: st) S iv Q := am_dup dX10_init_164 hv h
theorem sX10_init_165 {a0 : Value} (h : am_R E d mX10_init k n 167 [a0] (.int 13 :: st) S iv Q) : am_R E d mX10_init k n 165 [a0] st S iv Q := am_bipush dX10_init_165 (by decide) h
theorem sX10_init_167 {a0 : Value} (h : am_R E d mX10_init k n 168 [a0] (.int 0 :: st) S iv Q) : am_R E d mX10_init k n 167 [a0] st S iv Q := am_iconst dX10_init_167 (by decide) h
theorem sX10_init_168 {ls : List Value} {a m : Nat} {i x : Int32} (ha : S.1 a = some (.inr (.int, m))) (hi : vp_in i m) (h : am_R E d mX10_init k n 169 ls st S (am_w iv a i.toNatClampNeg x) Q) : am_R E d mX10_init k n 168 ls (.int x :: .int i :: .ref a :: st) S iv Q := am_iastore dX10_init_168 ha hi h
theorem sX10_init_169 {ls : List Value} {x : Value} (hv : x.category = 1) (h : am_R E d mX10_init k n 170 ls (x :: x :: st) S iv Q) : am_R E d mX10_init k n 169 ls (x :: st) S iv Q := am_dup dX10_init_169 hv h
theorem sX10_init_170 {a0 : Value} (h : am_R E d mX10_init k n 172 [a0] (.int 14 :: st) S iv Q) : am_R E d mX10_init k n 170 [a0] st S iv Q := am_bipush dX10_init_170 (by decide) h
theorem sX10_init_172 {a0 : Value} (h : am_R E d mX10_init k n 173 [a0] (.int 2 :: st) S iv Q) : am_R E d mX10_init k n 172 [a0] st S iv Q := am_iconst dX10_init_172 (by decide) h
theorem sX10_init_173 {ls : List Value} {a m : Nat} {i x : Int32} (ha : S.1 a = some (.inr (.int, m))) (hi : vp_in i m) (h : am_R E d mX10_init k n 174 ls st S (am_w iv a i.toNatClampNeg x) Q) : am_R E d mX10_init k n 173 ls (.int x :: .int i :: .ref a :: st) S iv Q := am_iastore dX10_init_173 ha hi h
theorem sX10_init_174 {ls : List Value} {x : Value} (hv : x.category = 1) (h : am_R E d mX10_init k n 175 ls (x :: x :: st) S iv Q) : am_R E d mX10_init k n 174 ls (x :: st) S iv Q := am_dup dX10_init_174 hv h
theorem sX10_init_175 {a0 : Value} (h : am_R E d mX10_init k n 177 [a0] (.int 15 :: st) S iv Q) : am_R E d mX10_init k n 175 [a0] st S iv Q := am_bipush dX10_init_175 (by decide) h
theorem sX10_init_177 {a0 : Value} (h : am_R E d mX10_init k n 178 [a0] (.int 0 :: st) S iv Q) : am_R E d mX10_init k n 177 [a0] st S iv Q := am_iconst dX10_init_177 (by decide) h
theorem sX10_init_178 {ls : List Value} {a m : Nat} {i x : Int32} (ha : S.1 a = some (.inr (.int, m))) (hi : vp_in i m) (h : am_R E d mX10_init k n 179 ls st S (am_w iv a i.toNatClampNeg x) Q) : am_R E d mX10_init k n 178 ls (.int x :: .int i :: .ref a :: st) S iv Q := am_iastore dX10_init_178 ha hi h
theorem sX10_init_179 {ls : List Value} {x : Value} (hv : x.category = 1) (h : am_R E d mX10_init k n 180 ls (x :: x :: st) S iv Q) : am_R E d mX10_init k n 179 ls (x :: st) S iv Q := am_dup dX10_init_179 hv h
theorem sX10_init_180 {a0 : Value} (h : am_R E d mX10_init k n 182 [a0] (.int 16 :: st) S iv Q) : am_R E d mX10_init k n 180 [a0] st S iv Q := am_bipush dX10_init_180 (by decide) h
theorem sX10_init_182 {a0 : Value} (h : am_R E d mX10_init k n 183 [a0] (.int 0 :: st) S iv Q) : am_R E d mX10_init k n 182 [a0] st S iv Q := am_iconst dX10_init_182 (by decide) h
theorem sX10_init_183 {ls : List Value} {a m : Nat} {i x : Int32} (ha : S.1 a = some (.inr (.int, m))) (hi : vp_in i m) (h : am_R E d mX10_init k n 184 ls st S (am_w iv a i.toNatClampNeg x) Q) : am_R E d mX10_init k n 183 ls (.int x :: .int i :: .ref a :: st) S iv Q := am_iastore dX10_init_183 ha hi h
theorem sX10_init_184 {ls : List Value} {x : Value} (hv : x.category = 1) (h : am_R E d mX10_init k n 185 ls (x :: x :: st) S iv Q) : am_R E d mX10_init k n 184 ls (x :: st) S iv Q := am_dup dX10_init_184 hv h
theorem sX10_init_185 {a0 : Value} (h : am_R E d mX10_init k n 187 [a0] (.int 17 :: st) S iv Q) : am_R E d mX10_init k n 185 [a0] st S iv Q := am_bipush dX10_init_185 (by decide) h
theorem sX10_init_187 {a0 : Value} (h : am_R E d mX10_init k n 188 [a0] (.int 0 :: st) S iv Q) : am_R E d mX10_init k n 187 [a0] st S iv Q := am_iconst dX10_init_187 (by decide) h
theorem sX10_init_188 {ls : List Value} {a m : Nat} {i x : Int32} (ha : S.1 a = some (.inr (.int, m))) (hi : vp_in i m) (h : am_R E d mX10_init k n 189 ls st S (am_w iv a i.toNatClampNeg x) Q) : am_R E d mX10_init k n 188 ls (.int x :: .int i :: .ref a :: st) S iv Q := am_iastore dX10_init_188 ha hi h
theorem sX10_init_189 {ls : List Value} {x : Value} (hv : x.category = 1) (h : am_R E d mX10_init k n 190 ls (x :: x :: st) S iv Q) : am_R E d mX10_init k n 189 ls (x :: st) S iv Q := am_dup dX10_init_189 hv h
theorem sX10_init_190 {a0 : Value} (h : am_R E d mX10_init k n 192 [a0] (.int 18 :: st) S iv Q) : am_R E d mX10_init k n 190 [a0] st S iv Q := am_bipush dX10_init_190 (by decide) h
theorem sX10_init_192 {a0 : Value} (h : am_R E d mX10_init k n 193 [a0] (.int 0 :: st) S iv Q) : am_R E d mX10_init k n 192 [a0] st S iv Q := am_iconst dX10_init_192 (by decide) h
theorem sX10_init_193 {ls : List Value} {a m : Nat} {i x : Int32} (ha : S.1 a = some (.inr (.int, m))) (hi : vp_in i m) (h : am_R E d mX10_init k n 194 ls st S (am_w iv a i.toNatClampNeg x) Q) : am_R E d mX10_init k n 193 ls (.int x :: .int i :: .ref a :: st) S iv Q := am_iastore dX10_init_193 ha hi h
theorem sX10_init_194 {ls : List Value} {x : Value} (hv : x.category = 1) (h : am_R E d mX10_init k n 195 ls (x :: x :: st) S iv Q) : am_R E d mX10_init k n 194 ls (x :: st) S iv Q := am_dup dX10_init_194 hv h
theorem sX10_init_195 {a0 : Value} (h : am_R E d mX10_init k n 197 [a0] (.int 19 :: st) S iv Q) : am_R E d mX10_init k n 195 [a0] st S iv Q := am_bipush dX10_init_195 (by decide) h
theorem sX10_init_197 {a0 : Value} (h : am_R E d mX10_init k n 198 [a0] (.int 0 :: st) S iv Q) : am_R E d mX10_init k n 197 [a0] st S iv Q := am_iconst dX10_init_197 (by decide) h
theorem sX10_init_198 {ls : List Value} {a m : Nat} {i x : Int32} (ha : S.1 a = some (.inr (.int, m))) (hi : vp_in i m) (h : am_R E d mX10_init k n 199 ls st S (am_w iv a i.toNatClampNeg x) Q) : am_R E d mX10_init k n 198 ls (.int x :: .int i :: .ref a :: st) S iv Q := am_iastore dX10_init_198 ha hi h
theorem sX10_init_199 {ls : List Value} {a b : Nat} (ha : S.1 a = some (.inl 10)) (h : am_R E d mX10_init k n 202 ls st (am_wr S a 4 b) iv Q) : am_R E d mX10_init k n 199 ls (.ref b :: .ref a :: st) S iv Q := am_putR (ci := 10) dX10_init_199 rfl rfl (by decide) wq_772 uq_10 tyX10_ok nmX10 (Or.inr ⟨rfl, rfl, rfl⟩) rfl ha h
theorem sX10_init_202 {a0 : Value} (hv : am_rf a0 = true) (h : am_R E d mX10_init k n 203 [a0] (a0 :: st) S iv Q) : am_R E d mX10_init k n 202 [a0] st S iv Q := am_aload_n dX10_init_202 rfl rfl hv h
theorem sX10_init_203 {a0 : Value} (h : am_R E d mX10_init k n 205 [a0] (.int 20 :: st) S iv Q) : am_R E d mX10_init k n 203 [a0] st S iv Q := am_bipush dX10_init_203 (by decide) h
theorem sX10_init_205 {ls : List Value} {x : Int32} {m : Nat} (hx : ¬ x < 0) (hm : x.toNatClampNeg = m) (hb : m ≤ 50000000) (h : am_R E d mX10_init k n 207 ls (.ref S.2.2.2 :: st) (am_new S (.inr (.int, m))) (am_0 S iv) Q) : am_R E d mX10_init (k + 1) (n + m) 205 ls (.int x :: st) S iv Q := am_nI dX10_init_205 wq_65 hx hm (by omega) (by omega) (by omega) h
theorem sX10_init_207 {ls : List Value} {a b : Nat} (ha : S.1 a = some (.inl 10)) (h : am_R E d mX10_init k n 210 ls st (am_wr S a 5 b) iv Q) : am_R E d mX10_init k n 207 ls (.ref b :: .ref a :: st) S iv Q := am_putR (ci := 10) dX10_init_207 rfl rfl (by decide) wq_773 uq_10 tyX10_ok nmX10 (Or.inr ⟨rfl, rfl, rfl⟩) rfl ha h
theorem sX10_init_210 {a0 : Value} (hv : am_rf a0 = true) (h : am_R E d mX10_init k n 211 [a0] (a0 :: st) S iv Q) : am_R E d mX10_init k n 210 [a0] st S iv Q := am_aload_n dX10_init_210 rfl rfl hv h
theorem sX10_init_211 {a0 : Value} (h : am_R E d mX10_init k n 213 [a0] (.int 20 :: st) S iv Q) : am_R E d mX10_init k n 211 [a0] st S iv Q := am_bipush dX10_init_211 (by decide) h
theorem sX10_init_213 {ls : List Value} {x : Int32} {m : Nat} (hx : ¬ x < 0) (hm : x.toNatClampNeg = m) (hb : m ≤ 50000000) (h : am_R E d mX10_init k n 215 ls (.ref S.2.2.2 :: st) (am_new S (.inr (.int, m))) (am_0 S iv) Q) : am_R E d mX10_init (k + 1) (n + m) 213 ls (.int x :: st) S iv Q := am_nI dX10_init_213 wq_65 hx hm (by omega) (by omega) (by omega) h
theorem sX10_init_215 {ls : List Value} {a b : Nat} (ha : S.1 a = some (.inl 10)) (h : am_R E d mX10_init k n 218 ls st (am_wr S a 6 b) iv Q) : am_R E d mX10_init k n 215 ls (.ref b :: .ref a :: st) S iv Q := am_putR (ci := 10) dX10_init_215 rfl rfl (by decide) wq_774 uq_10 tyX10_ok nmX10 (Or.inr ⟨rfl, rfl, rfl⟩) rfl ha h
theorem sX10_init_218 {a0 : Value} (hv : am_rf a0 = true) (h : am_R E d mX10_init k n 219 [a0] (a0 :: st) S iv Q) : am_R E d mX10_init k n 218 [a0] st S iv Q := am_aload_n dX10_init_218 rfl rfl hv h
theorem sX10_init_219 {a0 : Value} (h : am_R E d mX10_init k n 221 [a0] (.int 20 :: st) S iv Q) : am_R E d mX10_init k n 219 [a0] st S iv Q := am_bipush dX10_init_219 (by decide) h
theorem sX10_init_221 {ls : List Value} {x : Int32} {m : Nat} (hx : ¬ x < 0) (hm : x.toNatClampNeg = m) (hb : m ≤ 50000000) (h : am_R E d mX10_init k n 223 ls (.ref S.2.2.2 :: st) (am_new S (.inr (.int, m))) (am_0 S iv) Q) : am_R E d mX10_init (k + 1) (n + m) 221 ls (.int x :: st) S iv Q := am_nI dX10_init_221 wq_65 hx hm (by omega) (by omega) (by omega) h
theorem sX10_init_223 {ls : List Value} {a b : Nat} (ha : S.1 a = some (.inl 10)) (h : am_R E d mX10_init k n 226 ls st (am_wr S a 7 b) iv Q) : am_R E d mX10_init k n 223 ls (.ref b :: .ref a :: st) S iv Q := am_putR (ci := 10) dX10_init_223 rfl rfl (by decide) wq_775 uq_10 tyX10_ok nmX10 (Or.inr ⟨rfl, rfl, rfl⟩) rfl ha h
theorem sX10_init_226 {a0 : Value} (hv : am_rf a0 = true) (h : am_R E d mX10_init k n 227 [a0] (a0 :: st) S iv Q) : am_R E d mX10_init k n 226 [a0] st S iv Q := am_aload_n dX10_init_226 rfl rfl hv h
theorem sX10_init_227 {a0 : Value} (h : am_R E d mX10_init k n 229 [a0] (.int 20 :: st) S iv Q) : am_R E d mX10_init k n 227 [a0] st S iv Q := am_bipush dX10_init_227 (by decide) h
theorem sX10_init_229 {ls : List Value} {x : Int32} {m : Nat} (hx : ¬ x < 0) (hm : x.toNatClampNeg = m) (hb : m ≤ 50000000) (h : am_R E d mX10_init k n 231 ls (.ref S.2.2.2 :: st) (am_new S (.inr (.int, m))) (am_0 S iv) Q) : am_R E d mX10_init (k + 1) (n + m) 229 ls (.int x :: st) S iv Q := am_nI dX10_init_229 wq_65 hx hm (by omega) (by omega) (by omega) h
theorem sX10_init_231 {ls : List Value} {a b : Nat} (ha : S.1 a = some (.inl 10)) (h : am_R E d mX10_init k n 234 ls st (am_wr S a 8 b) iv Q) : am_R E d mX10_init k n 231 ls (.ref b :: .ref a :: st) S iv Q := am_putR (ci := 10) dX10_init_231 rfl rfl (by decide) wq_776 uq_10 tyX10_ok nmX10 (Or.inr ⟨rfl, rfl, rfl⟩) rfl ha h
theorem sX10_init_234 {a0 : Value} (hv : am_rf a0 = true) (h : am_R E d mX10_init k n 235 [a0] (a0 :: st) S iv Q) : am_R E d mX10_init k n 234 [a0] st S iv Q := am_aload_n dX10_init_234 rfl rfl hv h
theorem sX10_init_235 {a0 : Value} (h : am_R E d mX10_init k n 237 [a0] (.int 20 :: st) S iv Q) : am_R E d mX10_init k n 235 [a0] st S iv Q := am_bipush dX10_init_235 (by decide) h
theorem sX10_init_237 {ls : List Value} {x : Int32} {m : Nat} (hx : ¬ x < 0) (hm : x.toNatClampNeg = m) (hb : m ≤ 50000000) (h : am_R E d mX10_init k n 239 ls (.ref S.2.2.2 :: st) (am_new S (.inr (.int, m))) (am_0 S iv) Q) : am_R E d mX10_init (k + 1) (n + m) 237 ls (.int x :: st) S iv Q := am_nI dX10_init_237 wq_65 hx hm (by omega) (by omega) (by omega) h
theorem sX10_init_239 {ls : List Value} {a b : Nat} (ha : S.1 a = some (.inl 10)) (h : am_R E d mX10_init k n 242 ls st (am_wr S a 9 b) iv Q) : am_R E d mX10_init k n 239 ls (.ref b :: .ref a :: st) S iv Q := am_putR (ci := 10) dX10_init_239 rfl rfl (by decide) wq_777 uq_10 tyX10_ok nmX10 (Or.inr ⟨rfl, rfl, rfl⟩) rfl ha h
theorem sX10_init_242 {a0 : Value} (hv : am_rf a0 = true) (h : am_R E d mX10_init k n 243 [a0] (a0 :: st) S iv Q) : am_R E d mX10_init k n 242 [a0] st S iv Q := am_aload_n dX10_init_242 rfl rfl hv h
theorem sX10_init_243 {a0 : Value} (h : am_R E d mX10_init k n 245 [a0] (.int 10 :: st) S iv Q) : am_R E d mX10_init k n 243 [a0] st S iv Q := am_bipush dX10_init_243 (by decide) h
theorem sX10_init_245 {ls : List Value} {x : Int32} {m : Nat} (hx : ¬ x < 0) (hm : x.toNatClampNeg = m) (hb : m ≤ 50000000) (h : am_R E d mX10_init k n 247 ls (.ref S.2.2.2 :: st) (am_new S (.inr (.int, m))) (am_0 S iv) Q) : am_R E d mX10_init (k + 1) (n + m) 245 ls (.int x :: st) S iv Q := am_nI dX10_init_245 wq_65 hx hm (by omega) (by omega) (by omega) h
theorem sX10_init_247 {ls : List Value} {a b : Nat} (ha : S.1 a = some (.inl 10)) (h : am_R E d mX10_init k n 250 ls st (am_wr S a 10 b) iv Q) : am_R E d mX10_init k n 247 ls (.ref b :: .ref a :: st) S iv Q := am_putR (ci := 10) dX10_init_247 rfl rfl (by decide) wq_778 uq_10 tyX10_ok nmX10 (Or.inr ⟨rfl, rfl, rfl⟩) rfl ha h
theorem sX10_init_250 {a0 : Value} (hv : am_rf a0 = true) (h : am_R E d mX10_init k n 251 [a0] (a0 :: st) S iv Q) : am_R E d mX10_init k n 250 [a0] st S iv Q := am_aload_n dX10_init_250 rfl rfl hv h
theorem sX10_init_251 {a0 : Value} (h : am_R E d mX10_init k n 253 [a0] (.int 10 :: st) S iv Q) : am_R E d mX10_init k n 251 [a0] st S iv Q := am_bipush dX10_init_251 (by decide) h
theorem sX10_init_253 {ls : List Value} {x : Int32} {m : Nat} (hx : ¬ x < 0) (hm : x.toNatClampNeg = m) (hb : m ≤ 50000000) (h : am_R E d mX10_init k n 255 ls (.ref S.2.2.2 :: st) (am_new S (.inr (.int, m))) (am_0 S iv) Q) : am_R E d mX10_init (k + 1) (n + m) 253 ls (.int x :: st) S iv Q := am_nI dX10_init_253 wq_65 hx hm (by omega) (by omega) (by omega) h
theorem sX10_init_255 {ls : List Value} {a b : Nat} (ha : S.1 a = some (.inl 10)) (h : am_R E d mX10_init k n 258 ls st (am_wr S a 11 b) iv Q) : am_R E d mX10_init k n 255 ls (.ref b :: .ref a :: st) S iv Q := am_putR (ci := 10) dX10_init_255 rfl rfl (by decide) wq_779 uq_10 tyX10_ok nmX10 (Or.inr ⟨rfl, rfl, rfl⟩) rfl ha h
theorem sX10_init_258 {a0 : Value} (hv : am_rf a0 = true) (h : am_R E d mX10_init k n 259 [a0] (a0 :: st) S iv Q) : am_R E d mX10_init k n 258 [a0] st S iv Q := am_aload_n dX10_init_258 rfl rfl hv h
theorem sX10_init_259 {a0 : Value} (h : am_R E d mX10_init k n 261 [a0] (.int 10 :: st) S iv Q) : am_R E d mX10_init k n 259 [a0] st S iv Q := am_bipush dX10_init_259 (by decide) h
theorem sX10_init_261 {ls : List Value} {x : Int32} {m : Nat} (hx : ¬ x < 0) (hm : x.toNatClampNeg = m) (hb : m ≤ 50000000) (h : am_R E d mX10_init k n 263 ls (.ref S.2.2.2 :: st) (am_new S (.inr (.int, m))) (am_0 S iv) Q) : am_R E d mX10_init (k + 1) (n + m) 261 ls (.int x :: st) S iv Q := am_nI dX10_init_261 wq_65 hx hm (by omega) (by omega) (by omega) h
theorem sX10_init_263 {ls : List Value} {a b : Nat} (ha : S.1 a = some (.inl 10)) (h : am_R E d mX10_init k n 266 ls st (am_wr S a 12 b) iv Q) : am_R E d mX10_init k n 263 ls (.ref b :: .ref a :: st) S iv Q := am_putR (ci := 10) dX10_init_263 rfl rfl (by decide) wq_780 uq_10 tyX10_ok nmX10 (Or.inr ⟨rfl, rfl, rfl⟩) rfl ha h
theorem sX10_init_266 {a0 : Value} (hv : am_rf a0 = true) (h : am_R E d mX10_init k n 267 [a0] (a0 :: st) S iv Q) : am_R E d mX10_init k n 266 [a0] st S iv Q := am_aload_n dX10_init_266 rfl rfl hv h
theorem sX10_init_267 {a0 : Value} (h : am_R E d mX10_init k n 269 [a0] (.int 8 :: st) S iv Q) : am_R E d mX10_init k n 267 [a0] st S iv Q := am_bipush dX10_init_267 (by decide) h
theorem sX10_init_269 {ls : List Value} {x : Int32} {m : Nat} (hx : ¬ x < 0) (hm : x.toNatClampNeg = m) (hb : m ≤ 50000000) (h : am_R E d mX10_init k n 271 ls (.ref S.2.2.2 :: st) (am_new S (.inr (.int, m))) (am_0 S iv) Q) : am_R E d mX10_init (k + 1) (n + m) 269 ls (.int x :: st) S iv Q := am_nI dX10_init_269 wq_65 hx hm (by omega) (by omega) (by omega) h
theorem sX10_init_271 {ls : List Value} {a b : Nat} (ha : S.1 a = some (.inl 10)) (h : am_R E d mX10_init k n 274 ls st (am_wr S a 13 b) iv Q) : am_R E d mX10_init k n 271 ls (.ref b :: .ref a :: st) S iv Q := am_putR (ci := 10) dX10_init_271 rfl rfl (by decide) wq_781 uq_10 tyX10_ok nmX10 (Or.inr ⟨rfl, rfl, rfl⟩) rfl ha h
theorem sX10_init_274 {a0 : Value} (hv : am_rf a0 = true) (h : am_R E d mX10_init k n 275 [a0] (a0 :: st) S iv Q) : am_R E d mX10_init k n 274 [a0] st S iv Q := am_aload_n dX10_init_274 rfl rfl hv h
theorem sX10_init_275 {a0 : Value} (h : am_R E d mX10_init k n 277 [a0] (.int 8 :: st) S iv Q) : am_R E d mX10_init k n 275 [a0] st S iv Q := am_bipush dX10_init_275 (by decide) h
theorem sX10_init_277 {ls : List Value} {x : Int32} {m : Nat} (hx : ¬ x < 0) (hm : x.toNatClampNeg = m) (hb : m ≤ 50000000) (h : am_R E d mX10_init k n 279 ls (.ref S.2.2.2 :: st) (am_new S (.inr (.int, m))) (am_0 S iv) Q) : am_R E d mX10_init (k + 1) (n + m) 277 ls (.int x :: st) S iv Q := am_nI dX10_init_277 wq_65 hx hm (by omega) (by omega) (by omega) h
theorem sX10_init_279 {ls : List Value} {a b : Nat} (ha : S.1 a = some (.inl 10)) (h : am_R E d mX10_init k n 282 ls st (am_wr S a 14 b) iv Q) : am_R E d mX10_init k n 279 ls (.ref b :: .ref a :: st) S iv Q := am_putR (ci := 10) dX10_init_279 rfl rfl (by decide) wq_782 uq_10 tyX10_ok nmX10 (Or.inr ⟨rfl, rfl, rfl⟩) rfl ha h
theorem sX10_init_282 {a0 : Value} (hv : am_rf a0 = true) (h : am_R E d mX10_init k n 283 [a0] (a0 :: st) S iv Q) : am_R E d mX10_init k n 282 [a0] st S iv Q := am_aload_n dX10_init_282 rfl rfl hv h
theorem sX10_init_283 {a0 : Value} (h : am_R E d mX10_init k n 286 [a0] (.int 1400 :: st) S iv Q) : am_R E d mX10_init k n 283 [a0] st S iv Q := am_sipush dX10_init_283 (by decide) h
theorem sX10_init_286 {ls : List Value} {x : Int32} {m : Nat} (hx : ¬ x < 0) (hm : x.toNatClampNeg = m) (hb : m ≤ 50000000) (h : am_R E d mX10_init k n 288 ls (.ref S.2.2.2 :: st) (am_new S (.inr (.int, m))) (am_0 S iv) Q) : am_R E d mX10_init (k + 1) (n + m) 286 ls (.int x :: st) S iv Q := am_nI dX10_init_286 wq_65 hx hm (by omega) (by omega) (by omega) h
theorem sX10_init_288 {ls : List Value} {a b : Nat} (ha : S.1 a = some (.inl 10)) (h : am_R E d mX10_init k n 291 ls st (am_wr S a 15 b) iv Q) : am_R E d mX10_init k n 288 ls (.ref b :: .ref a :: st) S iv Q := am_putR (ci := 10) dX10_init_288 rfl rfl (by decide) wq_783 uq_10 tyX10_ok nmX10 (Or.inr ⟨rfl, rfl, rfl⟩) rfl ha h
theorem sX10_init_291 {a0 : Value} (hv : am_rf a0 = true) (h : am_R E d mX10_init k n 292 [a0] (a0 :: st) S iv Q) : am_R E d mX10_init k n 291 [a0] st S iv Q := am_aload_n dX10_init_291 rfl rfl hv h
theorem sX10_init_292 {a0 : Value} (h : am_R E d mX10_init k n 293 [a0] (.int 2 :: st) S iv Q) : am_R E d mX10_init k n 292 [a0] st S iv Q := am_iconst dX10_init_292 (by decide) h
theorem sX10_init_293 {ls : List Value} {x : Int32} {m : Nat} (hx : ¬ x < 0) (hm : x.toNatClampNeg = m) (hb : m ≤ 50000000) (h : am_R E d mX10_init k n 295 ls (.ref S.2.2.2 :: st) (am_new S (.inr (.int, m))) (am_0 S iv) Q) : am_R E d mX10_init (k + 1) (n + m) 293 ls (.int x :: st) S iv Q := am_nI dX10_init_293 wq_65 hx hm (by omega) (by omega) (by omega) h
theorem sX10_init_295 {ls : List Value} {a b : Nat} (ha : S.1 a = some (.inl 10)) (h : am_R E d mX10_init k n 298 ls st (am_wr S a 16 b) iv Q) : am_R E d mX10_init k n 295 ls (.ref b :: .ref a :: st) S iv Q := am_putR (ci := 10) dX10_init_295 rfl rfl (by decide) wq_784 uq_10 tyX10_ok nmX10 (Or.inr ⟨rfl, rfl, rfl⟩) rfl ha h
theorem sX10_init_298 {a0 : Value} (hv : am_rf a0 = true) (h : am_R E d mX10_init k n 299 [a0] (a0 :: st) S iv Q) : am_R E d mX10_init k n 298 [a0] st S iv Q := am_aload_n dX10_init_298 rfl rfl hv h
theorem sX10_init_299 {a0 : Value} (h : am_R E d mX10_init k n 302 [a0] (.int 700 :: st) S iv Q) : am_R E d mX10_init k n 299 [a0] st S iv Q := am_sipush dX10_init_299 (by decide) h
theorem sX10_init_302 {ls : List Value} {x : Int32} {m : Nat} (hx : ¬ x < 0) (hm : x.toNatClampNeg = m) (hb : m ≤ 50000000) (h : am_R E d mX10_init k n 304 ls (.ref S.2.2.2 :: st) (am_new S (.inr (.int, m))) (am_0 S iv) Q) : am_R E d mX10_init (k + 1) (n + m) 302 ls (.int x :: st) S iv Q := am_nI dX10_init_302 wq_65 hx hm (by omega) (by omega) (by omega) h
theorem sX10_init_304 {ls : List Value} {a b : Nat} (ha : S.1 a = some (.inl 10)) (h : am_R E d mX10_init k n 307 ls st (am_wr S a 17 b) iv Q) : am_R E d mX10_init k n 304 ls (.ref b :: .ref a :: st) S iv Q := am_putR (ci := 10) dX10_init_304 rfl rfl (by decide) wq_785 uq_10 tyX10_ok nmX10 (Or.inr ⟨rfl, rfl, rfl⟩) rfl ha h
theorem sX10_init_307 {a0 : Value} (hv : am_rf a0 = true) (h : am_R E d mX10_init k n 308 [a0] (a0 :: st) S iv Q) : am_R E d mX10_init k n 307 [a0] st S iv Q := am_aload_n dX10_init_307 rfl rfl hv h
theorem sX10_init_308 {a0 : Value} (h : am_R E d mX10_init k n 309 [a0] (.int (-1) :: st) S iv Q) : am_R E d mX10_init k n 308 [a0] st S iv Q := am_iconst dX10_init_308 (by decide) h
theorem sX10_init_309 {ls : List Value} {a : Nat} {x : Int32} (ha : S.1 a = some (.inl 10)) (h : am_R E d mX10_init k n 312 ls st S (am_w iv a 27 x) Q) : am_R E d mX10_init k n 309 ls (.int x :: .ref a :: st) S iv Q := am_putI (ci := 10) dX10_init_309 rfl rfl (by decide) wq_786 uq_10 tyX10_ok nmX10 (Or.inl rfl) rfl ha h
theorem sX10_init_312 {a0 : Value} (hv : am_rf a0 = true) (h : am_R E d mX10_init k n 313 [a0] (a0 :: st) S iv Q) : am_R E d mX10_init k n 312 [a0] st S iv Q := am_aload_n dX10_init_312 rfl rfl hv h
theorem sX10_init_313 {a0 : Value} (h : am_R E d mX10_init k n 314 [a0] (.int 5 :: st) S iv Q) : am_R E d mX10_init k n 313 [a0] st S iv Q := am_iconst dX10_init_313 (by decide) h
theorem sX10_init_314 {ls : List Value} {x : Int32} {m : Nat} (hx : ¬ x < 0) (hm : x.toNatClampNeg = m) (hb : m ≤ 50000000) (h : am_R E d mX10_init k n 316 ls (.ref S.2.2.2 :: st) (am_new S (.inr (.int, m))) (am_0 S iv) Q) : am_R E d mX10_init (k + 1) (n + m) 314 ls (.int x :: st) S iv Q := am_nI dX10_init_314 wq_65 hx hm (by omega) (by omega) (by omega) h
theorem sX10_init_316 {ls : List Value} {a b : Nat} (ha : S.1 a = some (.inl 10)) (h : am_R E d mX10_init k n 319 ls st (am_wr S a 33 b) iv Q) : am_R E d mX10_init k n 316 ls (.ref b :: .ref a :: st) S iv Q := am_putR (ci := 10) dX10_init_316 rfl rfl (by decide) wq_787 uq_10 tyX10_ok nmX10 (Or.inr ⟨rfl, rfl, rfl⟩) rfl ha h
theorem sX10_init_319 {a0 : Value} (hv : am_rf a0 = true) (h : am_R E d mX10_init k n 320 [a0] (a0 :: st) S iv Q) : am_R E d mX10_init k n 319 [a0] st S iv Q := am_aload_n dX10_init_319 rfl rfl hv h
theorem sX10_init_320 {a0 : Value} (h : am_R E d mX10_init k n 322 [a0] (.int 100 :: st) S iv Q) : am_R E d mX10_init k n 320 [a0] st S iv Q := am_bipush dX10_init_320 (by decide) h
theorem sX10_init_322 {ls : List Value} {x : Int32} {m : Nat} (hx : ¬ x < 0) (hm : x.toNatClampNeg = m) (hb : m ≤ 50000000) (h : am_R E d mX10_init k n 324 ls (.ref S.2.2.2 :: st) (am_new S (.inr (.int, m))) (am_0 S iv) Q) : am_R E d mX10_init (k + 1) (n + m) 322 ls (.int x :: st) S iv Q := am_nI dX10_init_322 wq_65 hx hm (by omega) (by omega) (by omega) h
theorem sX10_init_324 {ls : List Value} {a b : Nat} (ha : S.1 a = some (.inl 10)) (h : am_R E d mX10_init k n 327 ls st (am_wr S a 34 b) iv Q) : am_R E d mX10_init k n 324 ls (.ref b :: .ref a :: st) S iv Q := am_putR (ci := 10) dX10_init_324 rfl rfl (by decide) wq_788 uq_10 tyX10_ok nmX10 (Or.inr ⟨rfl, rfl, rfl⟩) rfl ha h
theorem sX10_init_327 {a0 : Value} (hv : am_rf a0 = true) (h : am_R E d mX10_init k n 328 [a0] (a0 :: st) S iv Q) : am_R E d mX10_init k n 327 [a0] st S iv Q := am_aload_n dX10_init_327 rfl rfl hv h
theorem sX10_init_328 {a0 : Value} (h : am_R E d mX10_init k n 330 [a0] (.int 100 :: st) S iv Q) : am_R E d mX10_init k n 328 [a0] st S iv Q := am_bipush dX10_init_328 (by decide) h
theorem sX10_init_330 {ls : List Value} {x : Int32} {m : Nat} (hx : ¬ x < 0) (hm : x.toNatClampNeg = m) (hb : m ≤ 50000000) (h : am_R E d mX10_init k n 332 ls (.ref S.2.2.2 :: st) (am_new S (.inr (.int, m))) (am_0 S iv) Q) : am_R E d mX10_init (k + 1) (n + m) 330 ls (.int x :: st) S iv Q := am_nI dX10_init_330 wq_65 hx hm (by omega) (by omega) (by omega) h
theorem sX10_init_332 {ls : List Value} {a b : Nat} (ha : S.1 a = some (.inl 10)) (h : am_R E d mX10_init k n 335 ls st (am_wr S a 35 b) iv Q) : am_R E d mX10_init k n 332 ls (.ref b :: .ref a :: st) S iv Q := am_putR (ci := 10) dX10_init_332 rfl rfl (by decide) wq_789 uq_10 tyX10_ok nmX10 (Or.inr ⟨rfl, rfl, rfl⟩) rfl ha h
theorem sX10_init_335 {a0 : Value} (hv : am_rf a0 = true) (h : am_R E d mX10_init k n 336 [a0] (a0 :: st) S iv Q) : am_R E d mX10_init k n 335 [a0] st S iv Q := am_aload_n dX10_init_335 rfl rfl hv h
theorem sX10_init_336 {a0 : Value} (h : am_R E d mX10_init k n 338 [a0] (.int 7 :: st) S iv Q) : am_R E d mX10_init k n 336 [a0] st S iv Q := am_bipush dX10_init_336 (by decide) h
theorem sX10_init_338 {ls : List Value} {x : Int32} {m : Nat} (hx : ¬ x < 0) (hm : x.toNatClampNeg = m) (hb : m ≤ 50000000) (h : am_R E d mX10_init k n 340 ls (.ref S.2.2.2 :: st) (am_new S (.inr (.int, m))) (am_0 S iv) Q) : am_R E d mX10_init (k + 1) (n + m) 338 ls (.int x :: st) S iv Q := am_nI dX10_init_338 wq_65 hx hm (by omega) (by omega) (by omega) h
theorem sX10_init_340 {ls : List Value} {a b : Nat} (ha : S.1 a = some (.inl 10)) (h : am_R E d mX10_init k n 343 ls st (am_wr S a 36 b) iv Q) : am_R E d mX10_init k n 340 ls (.ref b :: .ref a :: st) S iv Q := am_putR (ci := 10) dX10_init_340 rfl rfl (by decide) wq_790 uq_10 tyX10_ok nmX10 (Or.inr ⟨rfl, rfl, rfl⟩) rfl ha h
theorem sX10_init_343 {a0 : Value} (hv : am_rf a0 = true) (h : am_R E d mX10_init k n 344 [a0] (a0 :: st) S iv Q) : am_R E d mX10_init k n 343 [a0] st S iv Q := am_aload_n dX10_init_343 rfl rfl hv h
theorem sX10_init_344 {a0 : Value} (h : am_R E d mX10_init k n 346 [a0] (.int 60 :: st) S iv Q) : am_R E d mX10_init k n 344 [a0] st S iv Q := am_bipush dX10_init_344 (by decide) h
theorem sX10_init_346 {ls : List Value} {x : Int32} {m : Nat} (hx : ¬ x < 0) (hm : x.toNatClampNeg = m) (hb : m ≤ 50000000) (h : am_R E d mX10_init k n 348 ls (.ref S.2.2.2 :: st) (am_new S (.inr (.int, m))) (am_0 S iv) Q) : am_R E d mX10_init (k + 1) (n + m) 346 ls (.int x :: st) S iv Q := am_nI dX10_init_346 wq_65 hx hm (by omega) (by omega) (by omega) h
theorem sX10_init_348 {ls : List Value} {a b : Nat} (ha : S.1 a = some (.inl 10)) (h : am_R E d mX10_init k n 351 ls st (am_wr S a 37 b) iv Q) : am_R E d mX10_init k n 348 ls (.ref b :: .ref a :: st) S iv Q := am_putR (ci := 10) dX10_init_348 rfl rfl (by decide) wq_791 uq_10 tyX10_ok nmX10 (Or.inr ⟨rfl, rfl, rfl⟩) rfl ha h
theorem sX10_init_351 {a0 : Value} (hv : am_rf a0 = true) (h : am_R E d mX10_init k n 352 [a0] (a0 :: st) S iv Q) : am_R E d mX10_init k n 351 [a0] st S iv Q := am_aload_n dX10_init_351 rfl rfl hv h
theorem sX10_init_352 {a0 : Value} (h : am_R E d mX10_init k n 354 [a0] (.int 32768 :: st) S iv Q) : am_R E d mX10_init k n 352 [a0] st S iv Q := am_ldc dX10_init_352 wq_792 h
theorem sX10_init_354 {ls : List Value} {x : Int32} {m : Nat} (hx : ¬ x < 0) (hm : x.toNatClampNeg = m) (hb : m ≤ 50000000) (h : am_R E d mX10_init k n 356 ls (.ref S.2.2.2 :: st) (am_new S (.inr (.int, m))) (am_0 S iv) Q) : am_R E d mX10_init (k + 1) (n + m) 354 ls (.int x :: st) S iv Q := am_nI dX10_init_354 wq_65 hx hm (by omega) (by omega) (by omega) h
theorem sX10_init_356 {ls : List Value} {a b : Nat} (ha : S.1 a = some (.inl 10)) (h : am_R E d mX10_init k n 359 ls st (am_wr S a 38 b) iv Q) : am_R E d mX10_init k n 356 ls (.ref b :: .ref a :: st) S iv Q := am_putR (ci := 10) dX10_init_356 rfl rfl (by decide) wq_793 uq_10 tyX10_ok nmX10 (Or.inr ⟨rfl, rfl, rfl⟩) rfl ha h
theorem sX10_init_359 {a0 : Value} (hv : am_rf a0 = true) (h : am_R E d mX10_init k n 360 [a0] (a0 :: st) S iv Q) : am_R E d mX10_init k n 359 [a0] st S iv Q := am_aload_n dX10_init_359 rfl rfl hv h
theorem sX10_init_360 {a0 : Value} (h : am_R E d mX10_init k n 362 [a0] (.int 32768 :: st) S iv Q) : am_R E d mX10_init k n 360 [a0] st S iv Q := am_ldc dX10_init_360 wq_792 h
theorem sX10_init_362 {ls : List Value} {x : Int32} {m : Nat} (hx : ¬ x < 0) (hm : x.toNatClampNeg = m) (hb : m ≤ 50000000) (h : am_R E d mX10_init k n 364 ls (.ref S.2.2.2 :: st) (am_new S (.inr (.int, m))) (am_0 S iv) Q) : am_R E d mX10_init (k + 1) (n + m) 362 ls (.int x :: st) S iv Q := am_nI dX10_init_362 wq_65 hx hm (by omega) (by omega) (by omega) h
theorem sX10_init_364 {ls : List Value} {a b : Nat} (ha : S.1 a = some (.inl 10)) (h : am_R E d mX10_init k n 367 ls st (am_wr S a 39 b) iv Q) : am_R E d mX10_init k n 364 ls (.ref b :: .ref a :: st) S iv Q := am_putR (ci := 10) dX10_init_364 rfl rfl (by decide) wq_794 uq_10 tyX10_ok nmX10 (Or.inr ⟨rfl, rfl, rfl⟩) rfl ha h
theorem sX10_init_367 {a0 : Value} (hv : am_rf a0 = true) (h : am_R E d mX10_init k n 368 [a0] (a0 :: st) S iv Q) : am_R E d mX10_init k n 367 [a0] st S iv Q := am_aload_n dX10_init_367 rfl rfl hv h
theorem sX10_init_368 {a0 : Value} (h : am_R E d mX10_init k n 370 [a0] (.int 32768 :: st) S iv Q) : am_R E d mX10_init k n 368 [a0] st S iv Q := am_ldc dX10_init_368 wq_792 h
theorem sX10_init_370 {ls : List Value} {x : Int32} {m : Nat} (hx : ¬ x < 0) (hm : x.toNatClampNeg = m) (hb : m ≤ 50000000) (h : am_R E d mX10_init k n 372 ls (.ref S.2.2.2 :: st) (am_new S (.inr (.int, m))) (am_0 S iv) Q) : am_R E d mX10_init (k + 1) (n + m) 370 ls (.int x :: st) S iv Q := am_nI dX10_init_370 wq_65 hx hm (by omega) (by omega) (by omega) h
theorem sX10_init_372 {ls : List Value} {a b : Nat} (ha : S.1 a = some (.inl 10)) (h : am_R E d mX10_init k n 375 ls st (am_wr S a 40 b) iv Q) : am_R E d mX10_init k n 372 ls (.ref b :: .ref a :: st) S iv Q := am_putR (ci := 10) dX10_init_372 rfl rfl (by decide) wq_795 uq_10 tyX10_ok nmX10 (Or.inr ⟨rfl, rfl, rfl⟩) rfl ha h
theorem sX10_init_375 {a0 : Value} (hv : am_rf a0 = true) (h : am_R E d mX10_init k n 376 [a0] (a0 :: st) S iv Q) : am_R E d mX10_init k n 375 [a0] st S iv Q := am_aload_n dX10_init_375 rfl rfl hv h
theorem sX10_init_376 {a0 : Value} (h : am_R E d mX10_init k n 378 [a0] (.int 32768 :: st) S iv Q) : am_R E d mX10_init k n 376 [a0] st S iv Q := am_ldc dX10_init_376 wq_792 h
theorem sX10_init_378 {ls : List Value} {x : Int32} {m : Nat} (hx : ¬ x < 0) (hm : x.toNatClampNeg = m) (hb : m ≤ 50000000) (h : am_R E d mX10_init k n 380 ls (.ref S.2.2.2 :: st) (am_new S (.inr (.int, m))) (am_0 S iv) Q) : am_R E d mX10_init (k + 1) (n + m) 378 ls (.int x :: st) S iv Q := am_nI dX10_init_378 wq_65 hx hm (by omega) (by omega) (by omega) h
theorem sX10_init_380 {ls : List Value} {a b : Nat} (ha : S.1 a = some (.inl 10)) (h : am_R E d mX10_init k n 383 ls st (am_wr S a 41 b) iv Q) : am_R E d mX10_init k n 380 ls (.ref b :: .ref a :: st) S iv Q := am_putR (ci := 10) dX10_init_380 rfl rfl (by decide) wq_796 uq_10 tyX10_ok nmX10 (Or.inr ⟨rfl, rfl, rfl⟩) rfl ha h
theorem sX10_init_383 {a0 : Value} (hv : am_rf a0 = true) (h : am_R E d mX10_init k n 384 [a0] (a0 :: st) S iv Q) : am_R E d mX10_init k n 383 [a0] st S iv Q := am_aload_n dX10_init_383 rfl rfl hv h
theorem sX10_init_384 {a0 : Value} (h : am_R E d mX10_init k n 386 [a0] (.int 32768 :: st) S iv Q) : am_R E d mX10_init k n 384 [a0] st S iv Q := am_ldc dX10_init_384 wq_792 h
theorem sX10_init_386 {ls : List Value} {x : Int32} {m : Nat} (hx : ¬ x < 0) (hm : x.toNatClampNeg = m) (hb : m ≤ 50000000) (h : am_R E d mX10_init k n 388 ls (.ref S.2.2.2 :: st) (am_new S (.inr (.int, m))) (am_0 S iv) Q) : am_R E d mX10_init (k + 1) (n + m) 386 ls (.int x :: st) S iv Q := am_nI dX10_init_386 wq_65 hx hm (by omega) (by omega) (by omega) h
theorem sX10_init_388 {ls : List Value} {a b : Nat} (ha : S.1 a = some (.inl 10)) (h : am_R E d mX10_init k n 391 ls st (am_wr S a 42 b) iv Q) : am_R E d mX10_init k n 388 ls (.ref b :: .ref a :: st) S iv Q := am_putR (ci := 10) dX10_init_388 rfl rfl (by decide) wq_797 uq_10 tyX10_ok nmX10 (Or.inr ⟨rfl, rfl, rfl⟩) rfl ha h
theorem sX10_init_391 {a0 : Value} (hv : am_rf a0 = true) (h : am_R E d mX10_init k n 392 [a0] (a0 :: st) S iv Q) : am_R E d mX10_init k n 391 [a0] st S iv Q := am_aload_n dX10_init_391 rfl rfl hv h
theorem sX10_init_392 {a0 : Value} (h : am_R E d mX10_init k n 395 [a0] (.int 1024 :: st) S iv Q) : am_R E d mX10_init k n 392 [a0] st S iv Q := am_sipush dX10_init_392 (by decide) h
theorem sX10_init_395 {ls : List Value} {x : Int32} {m : Nat} (hx : ¬ x < 0) (hm : x.toNatClampNeg = m) (hb : m ≤ 50000000) (h : am_R E d mX10_init k n 397 ls (.ref S.2.2.2 :: st) (am_new S (.inr (.boolean, m))) (am_0 S iv) Q) : am_R E d mX10_init (k + 1) (n + m) 395 ls (.int x :: st) S iv Q := am_nZ dX10_init_395 wq_798 hx hm (by omega) (by omega) (by omega) h
theorem sX10_init_397 {ls : List Value} {a b : Nat} (ha : S.1 a = some (.inl 10)) (h : am_R E d mX10_init k n 400 ls st (am_wr S a 43 b) iv Q) : am_R E d mX10_init k n 397 ls (.ref b :: .ref a :: st) S iv Q := am_putR (ci := 10) dX10_init_397 rfl rfl (by decide) wq_799 uq_10 tyX10_ok nmX10 (Or.inr ⟨rfl, rfl, rfl⟩) rfl ha h
theorem sX10_init_400 {a0 : Value} (hv : am_rf a0 = true) (h : am_R E d mX10_init k n 401 [a0] (a0 :: st) S iv Q) : am_R E d mX10_init k n 400 [a0] st S iv Q := am_aload_n dX10_init_400 rfl rfl hv h
theorem sX10_init_401 {a0 : Value} (h : am_R E d mX10_init k n 402 [a0] (.int (-1) :: st) S iv Q) : am_R E d mX10_init k n 401 [a0] st S iv Q := am_iconst dX10_init_401 (by decide) h
theorem sX10_init_402 {ls : List Value} {a : Nat} {x : Int32} (ha : S.1 a = some (.inl 10)) (h : am_R E d mX10_init k n 405 ls st S (am_w iv a 45 x) Q) : am_R E d mX10_init k n 402 ls (.int x :: .ref a :: st) S iv Q := am_putI (ci := 10) dX10_init_402 rfl rfl (by decide) wq_800 uq_10 tyX10_ok nmX10 (Or.inl rfl) rfl ha h
theorem sX10_init_405 {a0 : Value} (hv : am_rf a0 = true) (h : am_R E d mX10_init k n 406 [a0] (a0 :: st) S iv Q) : am_R E d mX10_init k n 405 [a0] st S iv Q := am_aload_n dX10_init_405 rfl rfl hv h
theorem sX10_init_406 {a0 : Value} (h : am_R E d mX10_init k n 407 [a0] (.int 5 :: st) S iv Q) : am_R E d mX10_init k n 406 [a0] st S iv Q := am_iconst dX10_init_406 (by decide) h
theorem sX10_init_407 {ls : List Value} {x : Int32} {m : Nat} (hx : ¬ x < 0) (hm : x.toNatClampNeg = m) (hb : m ≤ 50000000) (h : am_R E d mX10_init k n 409 ls (.ref S.2.2.2 :: st) (am_new S (.inr (.int, m))) (am_0 S iv) Q) : am_R E d mX10_init (k + 1) (n + m) 407 ls (.int x :: st) S iv Q := am_nI dX10_init_407 wq_65 hx hm (by omega) (by omega) (by omega) h
theorem sX10_init_409 {ls : List Value} {a b : Nat} (ha : S.1 a = some (.inl 10)) (h : am_R E d mX10_init k n 412 ls st (am_wr S a 46 b) iv Q) : am_R E d mX10_init k n 409 ls (.ref b :: .ref a :: st) S iv Q := am_putR (ci := 10) dX10_init_409 rfl rfl (by decide) wq_801 uq_10 tyX10_ok nmX10 (Or.inr ⟨rfl, rfl, rfl⟩) rfl ha h
theorem sX10_init_412 {a0 : Value} (hv : am_rf a0 = true) (h : am_R E d mX10_init k n 413 [a0] (a0 :: st) S iv Q) : am_R E d mX10_init k n 412 [a0] st S iv Q := am_aload_n dX10_init_412 rfl rfl hv h
theorem sX10_init_413 {a0 : Value} (h : am_R E d mX10_init k n 414 [a0] (.int 5 :: st) S iv Q) : am_R E d mX10_init k n 413 [a0] st S iv Q := am_iconst dX10_init_413 (by decide) h
theorem sX10_init_414 {ls : List Value} {x : Int32} {m : Nat} (hx : ¬ x < 0) (hm : x.toNatClampNeg = m) (hb : m ≤ 50000000) (h : am_R E d mX10_init k n 416 ls (.ref S.2.2.2 :: st) (am_new S (.inr (.int, m))) (am_0 S iv) Q) : am_R E d mX10_init (k + 1) (n + m) 414 ls (.int x :: st) S iv Q := am_nI dX10_init_414 wq_65 hx hm (by omega) (by omega) (by omega) h
theorem sX10_init_416 {ls : List Value} {a b : Nat} (ha : S.1 a = some (.inl 10)) (h : am_R E d mX10_init k n 419 ls st (am_wr S a 53 b) iv Q) : am_R E d mX10_init k n 416 ls (.ref b :: .ref a :: st) S iv Q := am_putR (ci := 10) dX10_init_416 rfl rfl (by decide) wq_802 uq_10 tyX10_ok nmX10 (Or.inr ⟨rfl, rfl, rfl⟩) rfl ha h
theorem sX10_init_419 {a0 : Value} (hv : am_rf a0 = true) (h : am_R E d mX10_init k n 420 [a0] (a0 :: st) S iv Q) : am_R E d mX10_init k n 419 [a0] st S iv Q := am_aload_n dX10_init_419 rfl rfl hv h
theorem sX10_init_420 {a0 : Value} (h : am_R E d mX10_init k n 422 [a0] (.int 100 :: st) S iv Q) : am_R E d mX10_init k n 420 [a0] st S iv Q := am_bipush dX10_init_420 (by decide) h
theorem sX10_init_422 {ls : List Value} {x : Int32} {m : Nat} (hx : ¬ x < 0) (hm : x.toNatClampNeg = m) (hb : m ≤ 50000000) (h : am_R E d mX10_init k n 424 ls (.ref S.2.2.2 :: st) (am_new S (.inr (.int, m))) (am_0 S iv) Q) : am_R E d mX10_init (k + 1) (n + m) 422 ls (.int x :: st) S iv Q := am_nI dX10_init_422 wq_65 hx hm (by omega) (by omega) (by omega) h
theorem sX10_init_424 {ls : List Value} {a b : Nat} (ha : S.1 a = some (.inl 10)) (h : am_R E d mX10_init k n 427 ls st (am_wr S a 54 b) iv Q) : am_R E d mX10_init k n 424 ls (.ref b :: .ref a :: st) S iv Q := am_putR (ci := 10) dX10_init_424 rfl rfl (by decide) wq_803 uq_10 tyX10_ok nmX10 (Or.inr ⟨rfl, rfl, rfl⟩) rfl ha h
theorem sX10_init_427 {a0 : Value} (hv : am_rf a0 = true) (h : am_R E d mX10_init k n 428 [a0] (a0 :: st) S iv Q) : am_R E d mX10_init k n 427 [a0] st S iv Q := am_aload_n dX10_init_427 rfl rfl hv h
theorem sX10_init_428 {a0 : Value} (h : am_R E d mX10_init k n 430 [a0] (.int 100 :: st) S iv Q) : am_R E d mX10_init k n 428 [a0] st S iv Q := am_bipush dX10_init_428 (by decide) h
theorem sX10_init_430 {ls : List Value} {x : Int32} {m : Nat} (hx : ¬ x < 0) (hm : x.toNatClampNeg = m) (hb : m ≤ 50000000) (h : am_R E d mX10_init k n 432 ls (.ref S.2.2.2 :: st) (am_new S (.inr (.int, m))) (am_0 S iv) Q) : am_R E d mX10_init (k + 1) (n + m) 430 ls (.int x :: st) S iv Q := am_nI dX10_init_430 wq_65 hx hm (by omega) (by omega) (by omega) h
theorem sX10_init_432 {ls : List Value} {a b : Nat} (ha : S.1 a = some (.inl 10)) (h : am_R E d mX10_init k n 435 ls st (am_wr S a 55 b) iv Q) : am_R E d mX10_init k n 432 ls (.ref b :: .ref a :: st) S iv Q := am_putR (ci := 10) dX10_init_432 rfl rfl (by decide) wq_804 uq_10 tyX10_ok nmX10 (Or.inr ⟨rfl, rfl, rfl⟩) rfl ha h
theorem sX10_init_435 {a0 : Value} (hv : am_rf a0 = true) (h : am_R E d mX10_init k n 436 [a0] (a0 :: st) S iv Q) : am_R E d mX10_init k n 435 [a0] st S iv Q := am_aload_n dX10_init_435 rfl rfl hv h
theorem sX10_init_436 {a0 : Value} (h : am_R E d mX10_init k n 437 [a0] (.int 2 :: st) S iv Q) : am_R E d mX10_init k n 436 [a0] st S iv Q := am_iconst dX10_init_436 (by decide) h
theorem sX10_init_437 {ls : List Value} {x : Int32} {m : Nat} (hx : ¬ x < 0) (hm : x.toNatClampNeg = m) (hb : m ≤ 50000000) (h : am_R E d mX10_init k n 439 ls (.ref S.2.2.2 :: st) (am_new S (.inr (.int, m))) (am_0 S iv) Q) : am_R E d mX10_init (k + 1) (n + m) 437 ls (.int x :: st) S iv Q := am_nI dX10_init_437 wq_65 hx hm (by omega) (by omega) (by omega) h
theorem sX10_init_439 {ls : List Value} {a b : Nat} (ha : S.1 a = some (.inl 10)) (h : am_R E d mX10_init k n 442 ls st (am_wr S a 56 b) iv Q) : am_R E d mX10_init k n 439 ls (.ref b :: .ref a :: st) S iv Q := am_putR (ci := 10) dX10_init_439 rfl rfl (by decide) wq_805 uq_10 tyX10_ok nmX10 (Or.inr ⟨rfl, rfl, rfl⟩) rfl ha h
theorem sX10_init_442 {ls : List Value} (h : Q (.inl none) S iv) : am_R E d mX10_init k n 442 ls [] S iv Q := am_return dX10_init_442 rfl h
theorem dX10_thrown_0 : decode cX10_thrown 0 = .ok (.aload_n 0, 1) := by decide +kernel
theorem dX10_thrown_1 : decode cX10_thrown 1 = .ok (.getfield 143, 3) := by decide +kernel
theorem dX10_thrown_4 : decode cX10_thrown 4 = .ok (.ireturn, 1) := by decide +kernel
theorem sX10_thrown_0 {a0 : Value} (hv : am_rf a0 = true) (h : am_R E d mX10_thrown k n 1 [a0] (a0 :: st) S iv Q) : am_R E d mX10_thrown k n 0 [a0] st S iv Q := am_aload_n dX10_thrown_0 rfl rfl hv h
theorem sX10_thrown_1 {ls : List Value} {a : Nat} (ha : S.1 a = some (.inl 10)) (h : am_R E d mX10_thrown k n 4 ls (.int (iv a 3) :: st) S iv Q) : am_R E d mX10_thrown k n 1 ls (.ref a :: st) S iv Q := am_getI (ci := 10) dX10_thrown_1 rfl rfl (by decide) wq_806 uq_10 rfl ha h
theorem sX10_thrown_4 {ls : List Value} {x : Int32} (h : Q (.inl (some (.int x))) S iv) : am_R E d mX10_thrown k n 4 ls [.int x] S iv Q := am_ireturn dX10_thrown_4 rfl h
theorem dX10_fail_0 : decode cX10_fail 0 = .ok (.aload_n 0, 1) := by decide +kernel
theorem dX10_fail_1 : decode cX10_fail 1 = .ok (.iload_n 1, 1) := by decide +kernel
theorem dX10_fail_2 : decode cX10_fail 2 = .ok (.putfield 143, 3) := by decide +kernel
theorem dX10_fail_5 : decode cX10_fail 5 = .ok (.iconst 0, 1) := by decide +kernel
theorem dX10_fail_6 : decode cX10_fail 6 = .ok (.ireturn, 1) := by decide +kernel
theorem sX10_fail_0 {a0 a1 : Value} (hv : am_rf a0 = true) (h : am_R E d mX10_fail k n 1 [a0, a1] (a0 :: st) S iv Q) : am_R E d mX10_fail k n 0 [a0, a1] st S iv Q := am_aload_n dX10_fail_0 rfl rfl hv h
theorem sX10_fail_1 {a0 : Value} {x : Int32} (h : am_R E d mX10_fail k n 2 [a0, .int x] (.int x :: st) S iv Q) : am_R E d mX10_fail k n 1 [a0, .int x] st S iv Q := am_iload_n dX10_fail_1 rfl rfl h
theorem sX10_fail_2 {ls : List Value} {a : Nat} {x : Int32} (ha : S.1 a = some (.inl 10)) (h : am_R E d mX10_fail k n 5 ls st S (am_w iv a 3 x) Q) : am_R E d mX10_fail k n 2 ls (.int x :: .ref a :: st) S iv Q := am_putI (ci := 10) dX10_fail_2 rfl rfl (by decide) wq_806 uq_10 tyX10_ok nmX10 (Or.inl rfl) rfl ha h
theorem sX10_fail_5 {a0 a1 : Value} (h : am_R E d mX10_fail k n 6 [a0, a1] (.int 0 :: st) S iv Q) : am_R E d mX10_fail k n 5 [a0, a1] st S iv Q := am_iconst dX10_fail_5 (by decide) h
theorem sX10_fail_6 {ls : List Value} {x : Int32} (h : Q (.inl (some (.int x))) S iv) : am_R E d mX10_fail k n 6 ls [.int x] S iv Q := am_ireturn dX10_fail_6 rfl h
theorem dX10_isIn_0 : decode cX10_isIn 0 = .ok (.iload_n 0, 1) := by decide +kernel
theorem dX10_isIn_1 : decode cX10_isIn 1 = .ok (.iload_n 1, 1) := by decide +kernel
theorem dX10_isIn_2 : decode cX10_isIn 2 = .ok (.if_icmp .lt 12, 3) := by decide +kernel
theorem dX10_isIn_5 : decode cX10_isIn 5 = .ok (.iload_n 0, 1) := by decide +kernel
theorem dX10_isIn_6 : decode cX10_isIn 6 = .ok (.iload_n 2, 1) := by decide +kernel
theorem dX10_isIn_7 : decode cX10_isIn 7 = .ok (.if_icmp .gt 7, 3) := by decide +kernel
theorem dX10_isIn_10 : decode cX10_isIn 10 = .ok (.iconst 1, 1) := by decide +kernel
theorem dX10_isIn_11 : decode cX10_isIn 11 = .ok (.goto 4, 3) := by decide +kernel
theorem dX10_isIn_14 : decode cX10_isIn 14 = .ok (.iconst 0, 1) := by decide +kernel
theorem dX10_isIn_15 : decode cX10_isIn 15 = .ok (.ireturn, 1) := by decide +kernel
theorem sX10_isIn_0 {a1 a2 : Value} {x : Int32} (h : am_R E d mX10_isIn k n 1 [.int x, a1, a2] (.int x :: st) S iv Q) : am_R E d mX10_isIn k n 0 [.int x, a1, a2] st S iv Q := am_iload_n dX10_isIn_0 rfl rfl h
theorem sX10_isIn_1 {a0 a2 : Value} {x : Int32} (h : am_R E d mX10_isIn k n 2 [a0, .int x, a2] (.int x :: st) S iv Q) : am_R E d mX10_isIn k n 1 [a0, .int x, a2] st S iv Q := am_iload_n dX10_isIn_1 rfl rfl h
theorem sX10_isIn_2 {ls : List Value} {x y : Int32} (kt : x < y → am_R E d mX10_isIn k n 14 ls st S iv Q) (kf : ¬ x < y → am_R E d mX10_isIn k n 5 ls st S iv Q) : am_R E d mX10_isIn k n 2 ls (.int y :: .int x :: st) S iv Q := am_icmp_lt dX10_isIn_2 (by decide) kt kf
theorem sX10_isIn_5 {a1 a2 : Value} {x : Int32} (h : am_R E d mX10_isIn k n 6 [.int x, a1, a2] (.int x :: st) S iv Q) : am_R E d mX10_isIn k n 5 [.int x, a1, a2] st S iv Q := am_iload_n dX10_isIn_5 rfl rfl h
theorem sX10_isIn_6 {a0 a1 : Value} {x : Int32} (h : am_R E d mX10_isIn k n 7 [a0, a1, .int x] (.int x :: st) S iv Q) : am_R E d mX10_isIn k n 6 [a0, a1, .int x] st S iv Q := am_iload_n dX10_isIn_6 rfl rfl h
theorem sX10_isIn_7 {ls : List Value} {x y : Int32} (kt : y < x → am_R E d mX10_isIn k n 14 ls st S iv Q) (kf : ¬ y < x → am_R E d mX10_isIn k n 10 ls st S iv Q) : am_R E d mX10_isIn k n 7 ls (.int y :: .int x :: st) S iv Q := am_icmp_gt dX10_isIn_7 (by decide) kt kf
theorem sX10_isIn_10 {a0 a1 a2 : Value} (h : am_R E d mX10_isIn k n 11 [a0, a1, a2] (.int 1 :: st) S iv Q) : am_R E d mX10_isIn k n 10 [a0, a1, a2] st S iv Q := am_iconst dX10_isIn_10 (by decide) h
theorem sX10_isIn_11 {ls : List Value} (h : am_R E d mX10_isIn k n 15 ls st S iv Q) : am_R E d mX10_isIn k n 11 ls st S iv Q := am_goto dX10_isIn_11 (by decide) h
theorem sX10_isIn_14 {a0 a1 a2 : Value} (h : am_R E d mX10_isIn k n 15 [a0, a1, a2] (.int 0 :: st) S iv Q) : am_R E d mX10_isIn k n 14 [a0, a1, a2] st S iv Q := am_iconst dX10_isIn_14 (by decide) h
theorem sX10_isIn_15 {ls : List Value} {x : Int32} (hn : narrow .boolean (.int x) = .int x) (h : Q (.inl (some (.int x))) S iv) : am_R E d mX10_isIn k n 15 ls [.int x] S iv Q := am_zreturn dX10_isIn_15 rfl hn h
theorem dX10_isDrawer_0 : decode cX10_isDrawer 0 = .ok (.iload_n 1, 1) := by decide +kernel
theorem dX10_isDrawer_1 : decode cX10_isDrawer 1 = .ok (.iconst 0, 1) := by decide +kernel
theorem dX10_isDrawer_2 : decode cX10_isDrawer 2 = .ok (.aload_n 0, 1) := by decide +kernel
theorem dX10_isDrawer_3 : decode cX10_isDrawer 3 = .ok (.getfield 49, 3) := by decide +kernel
theorem dX10_isDrawer_6 : decode cX10_isDrawer 6 = .ok (.iconst 2, 1) := by decide +kernel
theorem dX10_isDrawer_7 : decode cX10_isDrawer 7 = .ok (.iaload, 1) := by decide +kernel
theorem dX10_isDrawer_8 : decode cX10_isDrawer 8 = .ok (.iconst 1, 1) := by decide +kernel
theorem dX10_isDrawer_9 : decode cX10_isDrawer 9 = .ok (.isub, 1) := by decide +kernel
theorem dX10_isDrawer_10 : decode cX10_isDrawer 10 = .ok (.invokestatic 146, 3) := by decide +kernel
theorem dX10_isDrawer_13 : decode cX10_isDrawer 13 = .ok (.ireturn, 1) := by decide +kernel
theorem sX10_isDrawer_0 {a0 : Value} {x : Int32} (h : am_R E d mX10_isDrawer k n 1 [a0, .int x] (.int x :: st) S iv Q) : am_R E d mX10_isDrawer k n 0 [a0, .int x] st S iv Q := am_iload_n dX10_isDrawer_0 rfl rfl h
theorem sX10_isDrawer_1 {a0 a1 : Value} (h : am_R E d mX10_isDrawer k n 2 [a0, a1] (.int 0 :: st) S iv Q) : am_R E d mX10_isDrawer k n 1 [a0, a1] st S iv Q := am_iconst dX10_isDrawer_1 (by decide) h
theorem sX10_isDrawer_2 {a0 a1 : Value} (hv : am_rf a0 = true) (h : am_R E d mX10_isDrawer k n 3 [a0, a1] (a0 :: st) S iv Q) : am_R E d mX10_isDrawer k n 2 [a0, a1] st S iv Q := am_aload_n dX10_isDrawer_2 rfl rfl hv h
theorem sX10_isDrawer_3 {ls : List Value} {a b : Nat} (ha : S.1 a = some (.inl 10)) (hb : S.2.1 a 4 = some b) (h : am_R E d mX10_isDrawer k n 6 ls (.ref b :: st) S iv Q) : am_R E d mX10_isDrawer k n 3 ls (.ref a :: st) S iv Q := am_getR (ci := 10) dX10_isDrawer_3 rfl rfl (by decide) wq_772 uq_10 rfl ha hb h
theorem sX10_isDrawer_6 {a0 a1 : Value} (h : am_R E d mX10_isDrawer k n 7 [a0, a1] (.int 2 :: st) S iv Q) : am_R E d mX10_isDrawer k n 6 [a0, a1] st S iv Q := am_iconst dX10_isDrawer_6 (by decide) h
theorem sX10_isDrawer_7 {ls : List Value} {a m : Nat} {i : Int32} (ha : S.1 a = some (.inr (.int, m))) (hi : vp_in i m) (h : am_R E d mX10_isDrawer k n 8 ls (.int (iv a i.toNatClampNeg) :: st) S iv Q) : am_R E d mX10_isDrawer k n 7 ls (.int i :: .ref a :: st) S iv Q := am_iaload dX10_isDrawer_7 ha hi h
theorem sX10_isDrawer_8 {a0 a1 : Value} (h : am_R E d mX10_isDrawer k n 9 [a0, a1] (.int 1 :: st) S iv Q) : am_R E d mX10_isDrawer k n 8 [a0, a1] st S iv Q := am_iconst dX10_isDrawer_8 (by decide) h
theorem sX10_isDrawer_9 {ls : List Value} {x y : Int32} (h : am_R E d mX10_isDrawer k n 10 ls (.int (x - y) :: st) S iv Q) : am_R E d mX10_isDrawer k n 9 ls (.int y :: .int x :: st) S iv Q := am_isub dX10_isDrawer_9 h
theorem sX10_isDrawer_10 {ls : List Value} {x1 x2 x3 : Value} (hst : (st.map fun v => v.category).sum ≤ 8) (hM : am_M E d mX10_isIn 0 0 [x1, x2, x3] S iv (am_K3 E (d + 1) mX10_isDrawer k n 10 ls st Q)) : am_R E (d + 1) mX10_isDrawer k n 10 ls (x3 :: x2 :: x1 :: st) S iv Q := am_cS (M' := mX10_isIn) (as := [x1, x2, x3]) dX10_isDrawer_10 rfl wq_810 wq_811 wq_808 wq_807 hy_X10_isIn (by decide) hst (by omega) (by omega) hM
theorem sX10_isDrawer_10_k {ls : List Value} {x1 x2 x3 : Value} {k' n' : Nat} (hst : (st.map fun v => v.category).sum ≤ 8) (hM : am_M E d mX10_isIn k' n' [x1, x2, x3] S iv (am_K3 E (d + 1) mX10_isDrawer k n 10 ls st Q)) : am_R E (d + 1) mX10_isDrawer (k' + k) (n' + n) 10 ls (x3 :: x2 :: x1 :: st) S iv Q := am_cS (M' := mX10_isIn) (as := [x1, x2, x3]) dX10_isDrawer_10 rfl wq_810 wq_811 wq_808 wq_807 hy_X10_isIn (by decide) hst (by omega) (by omega) hM
theorem sX10_isDrawer_13 {ls : List Value} {x : Int32} (hn : narrow .boolean (.int x) = .int x) (h : Q (.inl (some (.int x))) S iv) : am_R E d mX10_isDrawer k n 13 ls [.int x] S iv Q := am_zreturn dX10_isDrawer_13 rfl hn h
theorem dX10_isPerson_0 : decode cX10_isPerson 0 = .ok (.iload_n 1, 1) := by decide +kernel
theorem dX10_isPerson_1 : decode cX10_isPerson 1 = .ok (.iconst 0, 1) := by decide +kernel
theorem dX10_isPerson_2 : decode cX10_isPerson 2 = .ok (.aload_n 0, 1) := by decide +kernel
theorem dX10_isPerson_3 : decode cX10_isPerson 3 = .ok (.getfield 49, 3) := by decide +kernel
theorem dX10_isPerson_6 : decode cX10_isPerson 6 = .ok (.iconst 3, 1) := by decide +kernel
theorem dX10_isPerson_7 : decode cX10_isPerson 7 = .ok (.iaload, 1) := by decide +kernel
theorem dX10_isPerson_8 : decode cX10_isPerson 8 = .ok (.iconst 1, 1) := by decide +kernel
theorem dX10_isPerson_9 : decode cX10_isPerson 9 = .ok (.isub, 1) := by decide +kernel
theorem dX10_isPerson_10 : decode cX10_isPerson 10 = .ok (.invokestatic 146, 3) := by decide +kernel
theorem dX10_isPerson_13 : decode cX10_isPerson 13 = .ok (.ireturn, 1) := by decide +kernel
theorem sX10_isPerson_0 {a0 : Value} {x : Int32} (h : am_R E d mX10_isPerson k n 1 [a0, .int x] (.int x :: st) S iv Q) : am_R E d mX10_isPerson k n 0 [a0, .int x] st S iv Q := am_iload_n dX10_isPerson_0 rfl rfl h
theorem sX10_isPerson_1 {a0 a1 : Value} (h : am_R E d mX10_isPerson k n 2 [a0, a1] (.int 0 :: st) S iv Q) : am_R E d mX10_isPerson k n 1 [a0, a1] st S iv Q := am_iconst dX10_isPerson_1 (by decide) h
theorem sX10_isPerson_2 {a0 a1 : Value} (hv : am_rf a0 = true) (h : am_R E d mX10_isPerson k n 3 [a0, a1] (a0 :: st) S iv Q) : am_R E d mX10_isPerson k n 2 [a0, a1] st S iv Q := am_aload_n dX10_isPerson_2 rfl rfl hv h
theorem sX10_isPerson_3 {ls : List Value} {a b : Nat} (ha : S.1 a = some (.inl 10)) (hb : S.2.1 a 4 = some b) (h : am_R E d mX10_isPerson k n 6 ls (.ref b :: st) S iv Q) : am_R E d mX10_isPerson k n 3 ls (.ref a :: st) S iv Q := am_getR (ci := 10) dX10_isPerson_3 rfl rfl (by decide) wq_772 uq_10 rfl ha hb h
theorem sX10_isPerson_6 {a0 a1 : Value} (h : am_R E d mX10_isPerson k n 7 [a0, a1] (.int 3 :: st) S iv Q) : am_R E d mX10_isPerson k n 6 [a0, a1] st S iv Q := am_iconst dX10_isPerson_6 (by decide) h
theorem sX10_isPerson_7 {ls : List Value} {a m : Nat} {i : Int32} (ha : S.1 a = some (.inr (.int, m))) (hi : vp_in i m) (h : am_R E d mX10_isPerson k n 8 ls (.int (iv a i.toNatClampNeg) :: st) S iv Q) : am_R E d mX10_isPerson k n 7 ls (.int i :: .ref a :: st) S iv Q := am_iaload dX10_isPerson_7 ha hi h
theorem sX10_isPerson_8 {a0 a1 : Value} (h : am_R E d mX10_isPerson k n 9 [a0, a1] (.int 1 :: st) S iv Q) : am_R E d mX10_isPerson k n 8 [a0, a1] st S iv Q := am_iconst dX10_isPerson_8 (by decide) h
theorem sX10_isPerson_9 {ls : List Value} {x y : Int32} (h : am_R E d mX10_isPerson k n 10 ls (.int (x - y) :: st) S iv Q) : am_R E d mX10_isPerson k n 9 ls (.int y :: .int x :: st) S iv Q := am_isub dX10_isPerson_9 h
theorem sX10_isPerson_10 {ls : List Value} {x1 x2 x3 : Value} (hst : (st.map fun v => v.category).sum ≤ 8) (hM : am_M E d mX10_isIn 0 0 [x1, x2, x3] S iv (am_K3 E (d + 1) mX10_isPerson k n 10 ls st Q)) : am_R E (d + 1) mX10_isPerson k n 10 ls (x3 :: x2 :: x1 :: st) S iv Q := am_cS (M' := mX10_isIn) (as := [x1, x2, x3]) dX10_isPerson_10 rfl wq_810 wq_811 wq_808 wq_807 hy_X10_isIn (by decide) hst (by omega) (by omega) hM
theorem sX10_isPerson_10_k {ls : List Value} {x1 x2 x3 : Value} {k' n' : Nat} (hst : (st.map fun v => v.category).sum ≤ 8) (hM : am_M E d mX10_isIn k' n' [x1, x2, x3] S iv (am_K3 E (d + 1) mX10_isPerson k n 10 ls st Q)) : am_R E (d + 1) mX10_isPerson (k' + k) (n' + n) 10 ls (x3 :: x2 :: x1 :: st) S iv Q := am_cS (M' := mX10_isIn) (as := [x1, x2, x3]) dX10_isPerson_10 rfl wq_810 wq_811 wq_808 wq_807 hy_X10_isIn (by decide) hst (by omega) (by omega) hM
theorem sX10_isPerson_13 {ls : List Value} {x : Int32} (hn : narrow .boolean (.int x) = .int x) (h : Q (.inl (some (.int x))) S iv) : am_R E d mX10_isPerson k n 13 ls [.int x] S iv Q := am_zreturn dX10_isPerson_13 rfl hn h
theorem dX10_feed_0 : decode cX10_feed 0 = .ok (.aload_n 0, 1) := by decide +kernel
theorem dX10_feed_1 : decode cX10_feed 1 = .ok (.iconst 0, 1) := by decide +kernel
theorem dX10_feed_2 : decode cX10_feed 2 = .ok (.putfield 143, 3) := by decide +kernel
theorem dX10_feed_5 : decode cX10_feed 5 = .ok (.aload_n 0, 1) := by decide +kernel
theorem dX10_feed_6 : decode cX10_feed 6 = .ok (.getfield 150, 3) := by decide +kernel
theorem dX10_feed_9 : decode cX10_feed 9 = .ok (.bipush 20, 2) := by decide +kernel
theorem dX10_feed_11 : decode cX10_feed 11 = .ok (.iadd, 1) := by decide +kernel
theorem dX10_feed_12 : decode cX10_feed 12 = .ok (.sipush 700, 3) := by decide +kernel
theorem dX10_feed_15 : decode cX10_feed 15 = .ok (.if_icmp .le 5, 3) := by decide +kernel
theorem dX10_feed_18 : decode cX10_feed 18 = .ok (.iconst (-1), 1) := by decide +kernel
theorem dX10_feed_19 : decode cX10_feed 19 = .ok (.ireturn, 1) := by decide +kernel
theorem dX10_feed_20 : decode cX10_feed 20 = .ok (.iconst 0, 1) := by decide +kernel
theorem dX10_feed_21 : decode cX10_feed 21 = .ok (.istore 6, 2) := by decide +kernel
theorem dX10_feed_23 : decode cX10_feed 23 = .ok (.iload 6, 2) := by decide +kernel
theorem dX10_feed_25 : decode cX10_feed 25 = .ok (.bipush 20, 2) := by decide +kernel
theorem dX10_feed_27 : decode cX10_feed 27 = .ok (.if_icmp .ge 93, 3) := by decide +kernel
theorem dX10_feed_30 : decode cX10_feed 30 = .ok (.iload 6, 2) := by decide +kernel
theorem dX10_feed_32 : decode cX10_feed 32 = .ok (.iconst 4, 1) := by decide +kernel
theorem dX10_feed_33 : decode cX10_feed 33 = .ok (.if_icmp .ge 7, 3) := by decide +kernel
theorem dX10_feed_36 : decode cX10_feed 36 = .ok (.iload_n 1, 1) := by decide +kernel
theorem dX10_feed_37 : decode cX10_feed 37 = .ok (.goto 39, 3) := by decide +kernel
theorem dX10_feed_40 : decode cX10_feed 40 = .ok (.iload 6, 2) := by decide +kernel
theorem dX10_feed_42 : decode cX10_feed 42 = .ok (.bipush 8, 2) := by decide +kernel
theorem dX10_feed_44 : decode cX10_feed 44 = .ok (.if_icmp .ge 7, 3) := by decide +kernel
theorem dX10_feed_47 : decode cX10_feed 47 = .ok (.iload_n 2, 1) := by decide +kernel
theorem dX10_feed_48 : decode cX10_feed 48 = .ok (.goto 28, 3) := by decide +kernel
theorem dX10_feed_51 : decode cX10_feed 51 = .ok (.iload 6, 2) := by decide +kernel
theorem dX10_feed_53 : decode cX10_feed 53 = .ok (.bipush 12, 2) := by decide +kernel
theorem dX10_feed_55 : decode cX10_feed 55 = .ok (.if_icmp .ge 7, 3) := by decide +kernel
theorem dX10_feed_58 : decode cX10_feed 58 = .ok (.iload_n 3, 1) := by decide +kernel
theorem dX10_feed_59 : decode cX10_feed 59 = .ok (.goto 17, 3) := by decide +kernel
theorem dX10_feed_62 : decode cX10_feed 62 = .ok (.iload 6, 2) := by decide +kernel
theorem dX10_feed_64 : decode cX10_feed 64 = .ok (.bipush 16, 2) := by decide +kernel
theorem dX10_feed_66 : decode cX10_feed 66 = .ok (.if_icmp .ge 8, 3) := by decide +kernel
theorem dX10_feed_69 : decode cX10_feed 69 = .ok (.iload 4, 2) := by decide +kernel
theorem dX10_feed_71 : decode cX10_feed 71 = .ok (.goto 5, 3) := by decide +kernel
theorem dX10_feed_74 : decode cX10_feed 74 = .ok (.iload 5, 2) := by decide +kernel
theorem dX10_feed_76 : decode cX10_feed 76 = .ok (.istore 7, 2) := by decide +kernel
theorem dX10_feed_78 : decode cX10_feed 78 = .ok (.aload_n 0, 1) := by decide +kernel
theorem dX10_feed_79 : decode cX10_feed 79 = .ok (.getfield 83, 3) := by decide +kernel
theorem dX10_feed_82 : decode cX10_feed 82 = .ok (.aload_n 0, 1) := by decide +kernel
theorem dX10_feed_83 : decode cX10_feed 83 = .ok (.getfield 150, 3) := by decide +kernel
theorem dX10_feed_86 : decode cX10_feed 86 = .ok (.iload 7, 2) := by decide +kernel
theorem dX10_feed_88 : decode cX10_feed 88 = .ok (.bipush 24, 2) := by decide +kernel
theorem dX10_feed_90 : decode cX10_feed 90 = .ok (.bipush 8, 2) := by decide +kernel
theorem dX10_feed_92 : decode cX10_feed 92 = .ok (.iload 6, 2) := by decide +kernel
theorem dX10_feed_94 : decode cX10_feed 94 = .ok (.iconst 4, 1) := by decide +kernel
theorem dX10_feed_95 : decode cX10_feed 95 = .ok (.irem, 1) := by decide +kernel
theorem dX10_feed_96 : decode cX10_feed 96 = .ok (.imul, 1) := by decide +kernel
theorem dX10_feed_97 : decode cX10_feed 97 = .ok (.isub, 1) := by decide +kernel
theorem dX10_feed_98 : decode cX10_feed 98 = .ok (.ishr, 1) := by decide +kernel
theorem dX10_feed_99 : decode cX10_feed 99 = .ok (.sipush 255, 3) := by decide +kernel
theorem dX10_feed_102 : decode cX10_feed 102 = .ok (.iand, 1) := by decide +kernel
theorem dX10_feed_103 : decode cX10_feed 103 = .ok (.iastore, 1) := by decide +kernel
theorem dX10_feed_104 : decode cX10_feed 104 = .ok (.aload_n 0, 1) := by decide +kernel
theorem dX10_feed_105 : decode cX10_feed 105 = .ok (.dup, 1) := by decide +kernel
theorem dX10_feed_106 : decode cX10_feed 106 = .ok (.getfield 150, 3) := by decide +kernel
theorem dX10_feed_109 : decode cX10_feed 109 = .ok (.iconst 1, 1) := by decide +kernel
theorem dX10_feed_110 : decode cX10_feed 110 = .ok (.iadd, 1) := by decide +kernel
theorem dX10_feed_111 : decode cX10_feed 111 = .ok (.putfield 150, 3) := by decide +kernel
theorem dX10_feed_114 : decode cX10_feed 114 = .ok (.iinc 6 1, 3) := by decide +kernel
theorem dX10_feed_117 : decode cX10_feed 117 = .ok (.goto (-94), 3) := by decide +kernel
theorem dX10_feed_120 : decode cX10_feed 120 = .ok (.aload_n 0, 1) := by decide +kernel
theorem dX10_feed_121 : decode cX10_feed 121 = .ok (.getfield 150, 3) := by decide +kernel
theorem dX10_feed_124 : decode cX10_feed 124 = .ok (.ireturn, 1) := by decide +kernel
theorem sX10_feed_0 {a0 a1 a2 a3 a4 a5 a6 a7 : Value} (hv : am_rf a0 = true) (h : am_R E d mX10_feed k n 1 [a0, a1, a2, a3, a4, a5, a6, a7] (a0 :: st) S iv Q) : am_R E d mX10_feed k n 0 [a0, a1, a2, a3, a4, a5, a6, a7] st S iv Q := am_aload_n dX10_feed_0 rfl rfl hv h
theorem sX10_feed_1 {a0 a1 a2 a3 a4 a5 a6 a7 : Value} (h : am_R E d mX10_feed k n 2 [a0, a1, a2, a3, a4, a5, a6, a7] (.int 0 :: st) S iv Q) : am_R E d mX10_feed k n 1 [a0, a1, a2, a3, a4, a5, a6, a7] st S iv Q := am_iconst dX10_feed_1 (by decide) h
theorem sX10_feed_2 {ls : List Value} {a : Nat} {x : Int32} (ha : S.1 a = some (.inl 10)) (h : am_R E d mX10_feed k n 5 ls st S (am_w iv a 3 x) Q) : am_R E d mX10_feed k n 2 ls (.int x :: .ref a :: st) S iv Q := am_putI (ci := 10) dX10_feed_2 rfl rfl (by decide) wq_806 uq_10 tyX10_ok nmX10 (Or.inl rfl) rfl ha h
theorem sX10_feed_5 {a0 a1 a2 a3 a4 a5 a6 a7 : Value} (hv : am_rf a0 = true) (h : am_R E d mX10_feed k n 6 [a0, a1, a2, a3, a4, a5, a6, a7] (a0 :: st) S iv Q) : am_R E d mX10_feed k n 5 [a0, a1, a2, a3, a4, a5, a6, a7] st S iv Q := am_aload_n dX10_feed_5 rfl rfl hv h
theorem sX10_feed_6 {ls : List Value} {a : Nat} (ha : S.1 a = some (.inl 10)) (h : am_R E d mX10_feed k n 9 ls (.int (iv a 18) :: st) S iv Q) : am_R E d mX10_feed k n 6 ls (.ref a :: st) S iv Q := am_getI (ci := 10) dX10_feed_6 rfl rfl (by decide) wq_812 uq_10 rfl ha h
theorem sX10_feed_9 {a0 a1 a2 a3 a4 a5 a6 a7 : Value} (h : am_R E d mX10_feed k n 11 [a0, a1, a2, a3, a4, a5, a6, a7] (.int 20 :: st) S iv Q) : am_R E d mX10_feed k n 9 [a0, a1, a2, a3, a4, a5, a6, a7] st S iv Q := am_bipush dX10_feed_9 (by decide) h
theorem sX10_feed_11 {ls : List Value} {x y : Int32} (h : am_R E d mX10_feed k n 12 ls (.int (x + y) :: st) S iv Q) : am_R E d mX10_feed k n 11 ls (.int y :: .int x :: st) S iv Q := am_iadd dX10_feed_11 h
theorem sX10_feed_12 {a0 a1 a2 a3 a4 a5 a6 a7 : Value} (h : am_R E d mX10_feed k n 15 [a0, a1, a2, a3, a4, a5, a6, a7] (.int 700 :: st) S iv Q) : am_R E d mX10_feed k n 12 [a0, a1, a2, a3, a4, a5, a6, a7] st S iv Q := am_sipush dX10_feed_12 (by decide) h
theorem sX10_feed_15 {ls : List Value} {x y : Int32} (kt : x ≤ y → am_R E d mX10_feed k n 20 ls st S iv Q) (kf : ¬ x ≤ y → am_R E d mX10_feed k n 18 ls st S iv Q) : am_R E d mX10_feed k n 15 ls (.int y :: .int x :: st) S iv Q := am_icmp_le dX10_feed_15 (by decide) kt kf
theorem sX10_feed_18 {a0 a1 a2 a3 a4 a5 a6 a7 : Value} (h : am_R E d mX10_feed k n 19 [a0, a1, a2, a3, a4, a5, a6, a7] (.int (-1) :: st) S iv Q) : am_R E d mX10_feed k n 18 [a0, a1, a2, a3, a4, a5, a6, a7] st S iv Q := am_iconst dX10_feed_18 (by decide) h
theorem sX10_feed_19 {ls : List Value} {x : Int32} (h : Q (.inl (some (.int x))) S iv) : am_R E d mX10_feed k n 19 ls [.int x] S iv Q := am_ireturn dX10_feed_19 rfl h
theorem sX10_feed_20 {a0 a1 a2 a3 a4 a5 a6 a7 : Value} (h : am_R E d mX10_feed k n 21 [a0, a1, a2, a3, a4, a5, a6, a7] (.int 0 :: st) S iv Q) : am_R E d mX10_feed k n 20 [a0, a1, a2, a3, a4, a5, a6, a7] st S iv Q := am_iconst dX10_feed_20 (by decide) h
theorem sX10_feed_21 {a0 a1 a2 a3 a4 a5 a6 a7 : Value} {x : Int32} (h : am_R E d mX10_feed k n 23 [a0, a1, a2, a3, a4, a5, .int x, a7] st S iv Q) : am_R E d mX10_feed k n 21 [a0, a1, a2, a3, a4, a5, a6, a7] (.int x :: st) S iv Q := am_istore dX10_feed_21 (by decide) h
theorem sX10_feed_23 {a0 a1 a2 a3 a4 a5 a7 : Value} {x : Int32} (h : am_R E d mX10_feed k n 25 [a0, a1, a2, a3, a4, a5, .int x, a7] (.int x :: st) S iv Q) : am_R E d mX10_feed k n 23 [a0, a1, a2, a3, a4, a5, .int x, a7] st S iv Q := am_iload dX10_feed_23 rfl h
theorem sX10_feed_25 {a0 a1 a2 a3 a4 a5 a6 a7 : Value} (h : am_R E d mX10_feed k n 27 [a0, a1, a2, a3, a4, a5, a6, a7] (.int 20 :: st) S iv Q) : am_R E d mX10_feed k n 25 [a0, a1, a2, a3, a4, a5, a6, a7] st S iv Q := am_bipush dX10_feed_25 (by decide) h
theorem sX10_feed_27 {ls : List Value} {x y : Int32} (kt : y ≤ x → am_R E d mX10_feed k n 120 ls st S iv Q) (kf : ¬ y ≤ x → am_R E d mX10_feed k n 30 ls st S iv Q) : am_R E d mX10_feed k n 27 ls (.int y :: .int x :: st) S iv Q := am_icmp_ge dX10_feed_27 (by decide) kt kf
theorem sX10_feed_30 {a0 a1 a2 a3 a4 a5 a7 : Value} {x : Int32} (h : am_R E d mX10_feed k n 32 [a0, a1, a2, a3, a4, a5, .int x, a7] (.int x :: st) S iv Q) : am_R E d mX10_feed k n 30 [a0, a1, a2, a3, a4, a5, .int x, a7] st S iv Q := am_iload dX10_feed_30 rfl h
theorem sX10_feed_32 {a0 a1 a2 a3 a4 a5 a6 a7 : Value} (h : am_R E d mX10_feed k n 33 [a0, a1, a2, a3, a4, a5, a6, a7] (.int 4 :: st) S iv Q) : am_R E d mX10_feed k n 32 [a0, a1, a2, a3, a4, a5, a6, a7] st S iv Q := am_iconst dX10_feed_32 (by decide) h
theorem sX10_feed_33 {ls : List Value} {x y : Int32} (kt : y ≤ x → am_R E d mX10_feed k n 40 ls st S iv Q) (kf : ¬ y ≤ x → am_R E d mX10_feed k n 36 ls st S iv Q) : am_R E d mX10_feed k n 33 ls (.int y :: .int x :: st) S iv Q := am_icmp_ge dX10_feed_33 (by decide) kt kf
theorem sX10_feed_36 {a0 a2 a3 a4 a5 a6 a7 : Value} {x : Int32} (h : am_R E d mX10_feed k n 37 [a0, .int x, a2, a3, a4, a5, a6, a7] (.int x :: st) S iv Q) : am_R E d mX10_feed k n 36 [a0, .int x, a2, a3, a4, a5, a6, a7] st S iv Q := am_iload_n dX10_feed_36 rfl rfl h
theorem sX10_feed_37 {ls : List Value} (h : am_R E d mX10_feed k n 76 ls st S iv Q) : am_R E d mX10_feed k n 37 ls st S iv Q := am_goto dX10_feed_37 (by decide) h
theorem sX10_feed_40 {a0 a1 a2 a3 a4 a5 a7 : Value} {x : Int32} (h : am_R E d mX10_feed k n 42 [a0, a1, a2, a3, a4, a5, .int x, a7] (.int x :: st) S iv Q) : am_R E d mX10_feed k n 40 [a0, a1, a2, a3, a4, a5, .int x, a7] st S iv Q := am_iload dX10_feed_40 rfl h
theorem sX10_feed_42 {a0 a1 a2 a3 a4 a5 a6 a7 : Value} (h : am_R E d mX10_feed k n 44 [a0, a1, a2, a3, a4, a5, a6, a7] (.int 8 :: st) S iv Q) : am_R E d mX10_feed k n 42 [a0, a1, a2, a3, a4, a5, a6, a7] st S iv Q := am_bipush dX10_feed_42 (by decide) h
theorem sX10_feed_44 {ls : List Value} {x y : Int32} (kt : y ≤ x → am_R E d mX10_feed k n 51 ls st S iv Q) (kf : ¬ y ≤ x → am_R E d mX10_feed k n 47 ls st S iv Q) : am_R E d mX10_feed k n 44 ls (.int y :: .int x :: st) S iv Q := am_icmp_ge dX10_feed_44 (by decide) kt kf
theorem sX10_feed_47 {a0 a1 a3 a4 a5 a6 a7 : Value} {x : Int32} (h : am_R E d mX10_feed k n 48 [a0, a1, .int x, a3, a4, a5, a6, a7] (.int x :: st) S iv Q) : am_R E d mX10_feed k n 47 [a0, a1, .int x, a3, a4, a5, a6, a7] st S iv Q := am_iload_n dX10_feed_47 rfl rfl h
theorem sX10_feed_48 {ls : List Value} (h : am_R E d mX10_feed k n 76 ls st S iv Q) : am_R E d mX10_feed k n 48 ls st S iv Q := am_goto dX10_feed_48 (by decide) h
theorem sX10_feed_51 {a0 a1 a2 a3 a4 a5 a7 : Value} {x : Int32} (h : am_R E d mX10_feed k n 53 [a0, a1, a2, a3, a4, a5, .int x, a7] (.int x :: st) S iv Q) : am_R E d mX10_feed k n 51 [a0, a1, a2, a3, a4, a5, .int x, a7] st S iv Q := am_iload dX10_feed_51 rfl h
theorem sX10_feed_53 {a0 a1 a2 a3 a4 a5 a6 a7 : Value} (h : am_R E d mX10_feed k n 55 [a0, a1, a2, a3, a4, a5, a6, a7] (.int 12 :: st) S iv Q) : am_R E d mX10_feed k n 53 [a0, a1, a2, a3, a4, a5, a6, a7] st S iv Q := am_bipush dX10_feed_53 (by decide) h
theorem sX10_feed_55 {ls : List Value} {x y : Int32} (kt : y ≤ x → am_R E d mX10_feed k n 62 ls st S iv Q) (kf : ¬ y ≤ x → am_R E d mX10_feed k n 58 ls st S iv Q) : am_R E d mX10_feed k n 55 ls (.int y :: .int x :: st) S iv Q := am_icmp_ge dX10_feed_55 (by decide) kt kf
theorem sX10_feed_58 {a0 a1 a2 a4 a5 a6 a7 : Value} {x : Int32} (h : am_R E d mX10_feed k n 59 [a0, a1, a2, .int x, a4, a5, a6, a7] (.int x :: st) S iv Q) : am_R E d mX10_feed k n 58 [a0, a1, a2, .int x, a4, a5, a6, a7] st S iv Q := am_iload_n dX10_feed_58 rfl rfl h
theorem sX10_feed_59 {ls : List Value} (h : am_R E d mX10_feed k n 76 ls st S iv Q) : am_R E d mX10_feed k n 59 ls st S iv Q := am_goto dX10_feed_59 (by decide) h
theorem sX10_feed_62 {a0 a1 a2 a3 a4 a5 a7 : Value} {x : Int32} (h : am_R E d mX10_feed k n 64 [a0, a1, a2, a3, a4, a5, .int x, a7] (.int x :: st) S iv Q) : am_R E d mX10_feed k n 62 [a0, a1, a2, a3, a4, a5, .int x, a7] st S iv Q := am_iload dX10_feed_62 rfl h
theorem sX10_feed_64 {a0 a1 a2 a3 a4 a5 a6 a7 : Value} (h : am_R E d mX10_feed k n 66 [a0, a1, a2, a3, a4, a5, a6, a7] (.int 16 :: st) S iv Q) : am_R E d mX10_feed k n 64 [a0, a1, a2, a3, a4, a5, a6, a7] st S iv Q := am_bipush dX10_feed_64 (by decide) h
theorem sX10_feed_66 {ls : List Value} {x y : Int32} (kt : y ≤ x → am_R E d mX10_feed k n 74 ls st S iv Q) (kf : ¬ y ≤ x → am_R E d mX10_feed k n 69 ls st S iv Q) : am_R E d mX10_feed k n 66 ls (.int y :: .int x :: st) S iv Q := am_icmp_ge dX10_feed_66 (by decide) kt kf
theorem sX10_feed_69 {a0 a1 a2 a3 a5 a6 a7 : Value} {x : Int32} (h : am_R E d mX10_feed k n 71 [a0, a1, a2, a3, .int x, a5, a6, a7] (.int x :: st) S iv Q) : am_R E d mX10_feed k n 69 [a0, a1, a2, a3, .int x, a5, a6, a7] st S iv Q := am_iload dX10_feed_69 rfl h
theorem sX10_feed_71 {ls : List Value} (h : am_R E d mX10_feed k n 76 ls st S iv Q) : am_R E d mX10_feed k n 71 ls st S iv Q := am_goto dX10_feed_71 (by decide) h
theorem sX10_feed_74 {a0 a1 a2 a3 a4 a6 a7 : Value} {x : Int32} (h : am_R E d mX10_feed k n 76 [a0, a1, a2, a3, a4, .int x, a6, a7] (.int x :: st) S iv Q) : am_R E d mX10_feed k n 74 [a0, a1, a2, a3, a4, .int x, a6, a7] st S iv Q := am_iload dX10_feed_74 rfl h
theorem sX10_feed_76 {a0 a1 a2 a3 a4 a5 a6 a7 : Value} {x : Int32} (h : am_R E d mX10_feed k n 78 [a0, a1, a2, a3, a4, a5, a6, .int x] st S iv Q) : am_R E d mX10_feed k n 76 [a0, a1, a2, a3, a4, a5, a6, a7] (.int x :: st) S iv Q := am_istore dX10_feed_76 (by decide) h
theorem sX10_feed_78 {a0 a1 a2 a3 a4 a5 a6 a7 : Value} (hv : am_rf a0 = true) (h : am_R E d mX10_feed k n 79 [a0, a1, a2, a3, a4, a5, a6, a7] (a0 :: st) S iv Q) : am_R E d mX10_feed k n 78 [a0, a1, a2, a3, a4, a5, a6, a7] st S iv Q := am_aload_n dX10_feed_78 rfl rfl hv h
theorem sX10_feed_79 {ls : List Value} {a b : Nat} (ha : S.1 a = some (.inl 10)) (hb : S.2.1 a 17 = some b) (h : am_R E d mX10_feed k n 82 ls (.ref b :: st) S iv Q) : am_R E d mX10_feed k n 79 ls (.ref a :: st) S iv Q := am_getR (ci := 10) dX10_feed_79 rfl rfl (by decide) wq_785 uq_10 rfl ha hb h
theorem sX10_feed_82 {a0 a1 a2 a3 a4 a5 a6 a7 : Value} (hv : am_rf a0 = true) (h : am_R E d mX10_feed k n 83 [a0, a1, a2, a3, a4, a5, a6, a7] (a0 :: st) S iv Q) : am_R E d mX10_feed k n 82 [a0, a1, a2, a3, a4, a5, a6, a7] st S iv Q := am_aload_n dX10_feed_82 rfl rfl hv h
theorem sX10_feed_83 {ls : List Value} {a : Nat} (ha : S.1 a = some (.inl 10)) (h : am_R E d mX10_feed k n 86 ls (.int (iv a 18) :: st) S iv Q) : am_R E d mX10_feed k n 83 ls (.ref a :: st) S iv Q := am_getI (ci := 10) dX10_feed_83 rfl rfl (by decide) wq_812 uq_10 rfl ha h
theorem sX10_feed_86 {a0 a1 a2 a3 a4 a5 a6 : Value} {x : Int32} (h : am_R E d mX10_feed k n 88 [a0, a1, a2, a3, a4, a5, a6, .int x] (.int x :: st) S iv Q) : am_R E d mX10_feed k n 86 [a0, a1, a2, a3, a4, a5, a6, .int x] st S iv Q := am_iload dX10_feed_86 rfl h
theorem sX10_feed_88 {a0 a1 a2 a3 a4 a5 a6 a7 : Value} (h : am_R E d mX10_feed k n 90 [a0, a1, a2, a3, a4, a5, a6, a7] (.int 24 :: st) S iv Q) : am_R E d mX10_feed k n 88 [a0, a1, a2, a3, a4, a5, a6, a7] st S iv Q := am_bipush dX10_feed_88 (by decide) h
theorem sX10_feed_90 {a0 a1 a2 a3 a4 a5 a6 a7 : Value} (h : am_R E d mX10_feed k n 92 [a0, a1, a2, a3, a4, a5, a6, a7] (.int 8 :: st) S iv Q) : am_R E d mX10_feed k n 90 [a0, a1, a2, a3, a4, a5, a6, a7] st S iv Q := am_bipush dX10_feed_90 (by decide) h
theorem sX10_feed_92 {a0 a1 a2 a3 a4 a5 a7 : Value} {x : Int32} (h : am_R E d mX10_feed k n 94 [a0, a1, a2, a3, a4, a5, .int x, a7] (.int x :: st) S iv Q) : am_R E d mX10_feed k n 92 [a0, a1, a2, a3, a4, a5, .int x, a7] st S iv Q := am_iload dX10_feed_92 rfl h
theorem sX10_feed_94 {a0 a1 a2 a3 a4 a5 a6 a7 : Value} (h : am_R E d mX10_feed k n 95 [a0, a1, a2, a3, a4, a5, a6, a7] (.int 4 :: st) S iv Q) : am_R E d mX10_feed k n 94 [a0, a1, a2, a3, a4, a5, a6, a7] st S iv Q := am_iconst dX10_feed_94 (by decide) h
theorem sX10_feed_95 {ls : List Value} {x y : Int32} (hy : ¬ y = 0) (h : am_R E d mX10_feed k n 96 ls (.int (x - x / y * y) :: st) S iv Q) : am_R E d mX10_feed k n 95 ls (.int y :: .int x :: st) S iv Q := am_irem dX10_feed_95 hy h
theorem sX10_feed_96 {ls : List Value} {x y : Int32} (h : am_R E d mX10_feed k n 97 ls (.int (x * y) :: st) S iv Q) : am_R E d mX10_feed k n 96 ls (.int y :: .int x :: st) S iv Q := am_imul dX10_feed_96 h
theorem sX10_feed_97 {ls : List Value} {x y : Int32} (h : am_R E d mX10_feed k n 98 ls (.int (x - y) :: st) S iv Q) : am_R E d mX10_feed k n 97 ls (.int y :: .int x :: st) S iv Q := am_isub dX10_feed_97 h
theorem sX10_feed_98 {ls : List Value} {x y : Int32} (h : am_R E d mX10_feed k n 99 ls (.int (x >>> (y &&& 31)) :: st) S iv Q) : am_R E d mX10_feed k n 98 ls (.int y :: .int x :: st) S iv Q := am_ishr dX10_feed_98 h
theorem sX10_feed_99 {a0 a1 a2 a3 a4 a5 a6 a7 : Value} (h : am_R E d mX10_feed k n 102 [a0, a1, a2, a3, a4, a5, a6, a7] (.int 255 :: st) S iv Q) : am_R E d mX10_feed k n 99 [a0, a1, a2, a3, a4, a5, a6, a7] st S iv Q := am_sipush dX10_feed_99 (by decide) h
theorem sX10_feed_102 {ls : List Value} {x y : Int32} (h : am_R E d mX10_feed k n 103 ls (.int (x &&& y) :: st) S iv Q) : am_R E d mX10_feed k n 102 ls (.int y :: .int x :: st) S iv Q := am_iand dX10_feed_102 h
theorem sX10_feed_103 {ls : List Value} {a m : Nat} {i x : Int32} (ha : S.1 a = some (.inr (.int, m))) (hi : vp_in i m) (h : am_R E d mX10_feed k n 104 ls st S (am_w iv a i.toNatClampNeg x) Q) : am_R E d mX10_feed k n 103 ls (.int x :: .int i :: .ref a :: st) S iv Q := am_iastore dX10_feed_103 ha hi h
theorem sX10_feed_104 {a0 a1 a2 a3 a4 a5 a6 a7 : Value} (hv : am_rf a0 = true) (h : am_R E d mX10_feed k n 105 [a0, a1, a2, a3, a4, a5, a6, a7] (a0 :: st) S iv Q) : am_R E d mX10_feed k n 104 [a0, a1, a2, a3, a4, a5, a6, a7] st S iv Q := am_aload_n dX10_feed_104 rfl rfl hv h
theorem sX10_feed_105 {ls : List Value} {x : Value} (hv : x.category = 1) (h : am_R E d mX10_feed k n 106 ls (x :: x :: st) S iv Q) : am_R E d mX10_feed k n 105 ls (x :: st) S iv Q := am_dup dX10_feed_105 hv h
theorem sX10_feed_106 {ls : List Value} {a : Nat} (ha : S.1 a = some (.inl 10)) (h : am_R E d mX10_feed k n 109 ls (.int (iv a 18) :: st) S iv Q) : am_R E d mX10_feed k n 106 ls (.ref a :: st) S iv Q := am_getI (ci := 10) dX10_feed_106 rfl rfl (by decide) wq_812 uq_10 rfl ha h
theorem sX10_feed_109 {a0 a1 a2 a3 a4 a5 a6 a7 : Value} (h : am_R E d mX10_feed k n 110 [a0, a1, a2, a3, a4, a5, a6, a7] (.int 1 :: st) S iv Q) : am_R E d mX10_feed k n 109 [a0, a1, a2, a3, a4, a5, a6, a7] st S iv Q := am_iconst dX10_feed_109 (by decide) h
theorem sX10_feed_110 {ls : List Value} {x y : Int32} (h : am_R E d mX10_feed k n 111 ls (.int (x + y) :: st) S iv Q) : am_R E d mX10_feed k n 110 ls (.int y :: .int x :: st) S iv Q := am_iadd dX10_feed_110 h
theorem sX10_feed_111 {ls : List Value} {a : Nat} {x : Int32} (ha : S.1 a = some (.inl 10)) (h : am_R E d mX10_feed k n 114 ls st S (am_w iv a 18 x) Q) : am_R E d mX10_feed k n 111 ls (.int x :: .ref a :: st) S iv Q := am_putI (ci := 10) dX10_feed_111 rfl rfl (by decide) wq_812 uq_10 tyX10_ok nmX10 (Or.inl rfl) rfl ha h
theorem sX10_feed_114 {a0 a1 a2 a3 a4 a5 a7 : Value} {x : Int32} (h : am_R E d mX10_feed k n 117 [a0, a1, a2, a3, a4, a5, .int (x + 1), a7] st S iv Q) : am_R E d mX10_feed k n 114 [a0, a1, a2, a3, a4, a5, .int x, a7] st S iv Q := am_iinc dX10_feed_114 rfl rfl (by decide) h
theorem sX10_feed_117 {ls : List Value} (h : am_R E d mX10_feed k n 23 ls st S iv Q) : am_R E d mX10_feed k n 117 ls st S iv Q := am_goto dX10_feed_117 (by decide) h
theorem sX10_feed_120 {a0 a1 a2 a3 a4 a5 a6 a7 : Value} (hv : am_rf a0 = true) (h : am_R E d mX10_feed k n 121 [a0, a1, a2, a3, a4, a5, a6, a7] (a0 :: st) S iv Q) : am_R E d mX10_feed k n 120 [a0, a1, a2, a3, a4, a5, a6, a7] st S iv Q := am_aload_n dX10_feed_120 rfl rfl hv h
theorem sX10_feed_121 {ls : List Value} {a : Nat} (ha : S.1 a = some (.inl 10)) (h : am_R E d mX10_feed k n 124 ls (.int (iv a 18) :: st) S iv Q) : am_R E d mX10_feed k n 121 ls (.ref a :: st) S iv Q := am_getI (ci := 10) dX10_feed_121 rfl rfl (by decide) wq_812 uq_10 rfl ha h
theorem sX10_feed_124 {ls : List Value} {x : Int32} (h : Q (.inl (some (.int x))) S iv) : am_R E d mX10_feed k n 124 ls [.int x] S iv Q := am_ireturn dX10_feed_124 rfl h
theorem dX10_byteAt_0 : decode cX10_byteAt 0 = .ok (.iload_n 1, 1) := by decide +kernel
theorem dX10_byteAt_1 : decode cX10_byteAt 1 = .ok (.aload_n 0, 1) := by decide +kernel
theorem dX10_byteAt_2 : decode cX10_byteAt 2 = .ok (.getfield 153, 3) := by decide +kernel
theorem dX10_byteAt_5 : decode cX10_byteAt 5 = .ok (.if_icmp .ge 12, 3) := by decide +kernel
theorem dX10_byteAt_8 : decode cX10_byteAt 8 = .ok (.aload_n 0, 1) := by decide +kernel
theorem dX10_byteAt_9 : decode cX10_byteAt 9 = .ok (.getfield 83, 3) := by decide +kernel
theorem dX10_byteAt_12 : decode cX10_byteAt 12 = .ok (.iload_n 1, 1) := by decide +kernel
theorem dX10_byteAt_13 : decode cX10_byteAt 13 = .ok (.iaload, 1) := by decide +kernel
theorem dX10_byteAt_14 : decode cX10_byteAt 14 = .ok (.goto 4, 3) := by decide +kernel
theorem dX10_byteAt_17 : decode cX10_byteAt 17 = .ok (.iconst (-1), 1) := by decide +kernel
theorem dX10_byteAt_18 : decode cX10_byteAt 18 = .ok (.ireturn, 1) := by decide +kernel
theorem sX10_byteAt_0 {a0 : Value} {x : Int32} (h : am_R E d mX10_byteAt k n 1 [a0, .int x] (.int x :: st) S iv Q) : am_R E d mX10_byteAt k n 0 [a0, .int x] st S iv Q := am_iload_n dX10_byteAt_0 rfl rfl h
theorem sX10_byteAt_1 {a0 a1 : Value} (hv : am_rf a0 = true) (h : am_R E d mX10_byteAt k n 2 [a0, a1] (a0 :: st) S iv Q) : am_R E d mX10_byteAt k n 1 [a0, a1] st S iv Q := am_aload_n dX10_byteAt_1 rfl rfl hv h
theorem sX10_byteAt_2 {ls : List Value} {a : Nat} (ha : S.1 a = some (.inl 10)) (h : am_R E d mX10_byteAt k n 5 ls (.int (iv a 20) :: st) S iv Q) : am_R E d mX10_byteAt k n 2 ls (.ref a :: st) S iv Q := am_getI (ci := 10) dX10_byteAt_2 rfl rfl (by decide) wq_813 uq_10 rfl ha h
theorem sX10_byteAt_5 {ls : List Value} {x y : Int32} (kt : y ≤ x → am_R E d mX10_byteAt k n 17 ls st S iv Q) (kf : ¬ y ≤ x → am_R E d mX10_byteAt k n 8 ls st S iv Q) : am_R E d mX10_byteAt k n 5 ls (.int y :: .int x :: st) S iv Q := am_icmp_ge dX10_byteAt_5 (by decide) kt kf
theorem sX10_byteAt_8 {a0 a1 : Value} (hv : am_rf a0 = true) (h : am_R E d mX10_byteAt k n 9 [a0, a1] (a0 :: st) S iv Q) : am_R E d mX10_byteAt k n 8 [a0, a1] st S iv Q := am_aload_n dX10_byteAt_8 rfl rfl hv h
theorem sX10_byteAt_9 {ls : List Value} {a b : Nat} (ha : S.1 a = some (.inl 10)) (hb : S.2.1 a 17 = some b) (h : am_R E d mX10_byteAt k n 12 ls (.ref b :: st) S iv Q) : am_R E d mX10_byteAt k n 9 ls (.ref a :: st) S iv Q := am_getR (ci := 10) dX10_byteAt_9 rfl rfl (by decide) wq_785 uq_10 rfl ha hb h
theorem sX10_byteAt_12 {a0 : Value} {x : Int32} (h : am_R E d mX10_byteAt k n 13 [a0, .int x] (.int x :: st) S iv Q) : am_R E d mX10_byteAt k n 12 [a0, .int x] st S iv Q := am_iload_n dX10_byteAt_12 rfl rfl h
theorem sX10_byteAt_13 {ls : List Value} {a m : Nat} {i : Int32} (ha : S.1 a = some (.inr (.int, m))) (hi : vp_in i m) (h : am_R E d mX10_byteAt k n 14 ls (.int (iv a i.toNatClampNeg) :: st) S iv Q) : am_R E d mX10_byteAt k n 13 ls (.int i :: .ref a :: st) S iv Q := am_iaload dX10_byteAt_13 ha hi h
theorem sX10_byteAt_14 {ls : List Value} (h : am_R E d mX10_byteAt k n 18 ls st S iv Q) : am_R E d mX10_byteAt k n 14 ls st S iv Q := am_goto dX10_byteAt_14 (by decide) h
theorem sX10_byteAt_17 {a0 a1 : Value} (h : am_R E d mX10_byteAt k n 18 [a0, a1] (.int (-1) :: st) S iv Q) : am_R E d mX10_byteAt k n 17 [a0, a1] st S iv Q := am_iconst dX10_byteAt_17 (by decide) h
theorem sX10_byteAt_18 {ls : List Value} {x : Int32} (h : Q (.inl (some (.int x))) S iv) : am_R E d mX10_byteAt k n 18 ls [.int x] S iv Q := am_ireturn dX10_byteAt_18 rfl h
theorem dX10_isLetter_0 : decode cX10_isLetter 0 = .ok (.iload_n 0, 1) := by decide +kernel
theorem dX10_isLetter_1 : decode cX10_isLetter 1 = .ok (.bipush 97, 2) := by decide +kernel
theorem dX10_isLetter_3 : decode cX10_isLetter 3 = .ok (.if_icmp .lt 13, 3) := by decide +kernel
theorem dX10_isLetter_6 : decode cX10_isLetter 6 = .ok (.iload_n 0, 1) := by decide +kernel
theorem dX10_isLetter_7 : decode cX10_isLetter 7 = .ok (.bipush 122, 2) := by decide +kernel
theorem dX10_isLetter_9 : decode cX10_isLetter 9 = .ok (.if_icmp .gt 7, 3) := by decide +kernel
theorem dX10_isLetter_12 : decode cX10_isLetter 12 = .ok (.iconst 1, 1) := by decide +kernel
theorem dX10_isLetter_13 : decode cX10_isLetter 13 = .ok (.goto 4, 3) := by decide +kernel
theorem dX10_isLetter_16 : decode cX10_isLetter 16 = .ok (.iconst 0, 1) := by decide +kernel
theorem dX10_isLetter_17 : decode cX10_isLetter 17 = .ok (.ireturn, 1) := by decide +kernel
theorem sX10_isLetter_0 {x : Int32} (h : am_R E d mX10_isLetter k n 1 [.int x] (.int x :: st) S iv Q) : am_R E d mX10_isLetter k n 0 [.int x] st S iv Q := am_iload_n dX10_isLetter_0 rfl rfl h
theorem sX10_isLetter_1 {a0 : Value} (h : am_R E d mX10_isLetter k n 3 [a0] (.int 97 :: st) S iv Q) : am_R E d mX10_isLetter k n 1 [a0] st S iv Q := am_bipush dX10_isLetter_1 (by decide) h
theorem sX10_isLetter_3 {ls : List Value} {x y : Int32} (kt : x < y → am_R E d mX10_isLetter k n 16 ls st S iv Q) (kf : ¬ x < y → am_R E d mX10_isLetter k n 6 ls st S iv Q) : am_R E d mX10_isLetter k n 3 ls (.int y :: .int x :: st) S iv Q := am_icmp_lt dX10_isLetter_3 (by decide) kt kf
theorem sX10_isLetter_6 {x : Int32} (h : am_R E d mX10_isLetter k n 7 [.int x] (.int x :: st) S iv Q) : am_R E d mX10_isLetter k n 6 [.int x] st S iv Q := am_iload_n dX10_isLetter_6 rfl rfl h
theorem sX10_isLetter_7 {a0 : Value} (h : am_R E d mX10_isLetter k n 9 [a0] (.int 122 :: st) S iv Q) : am_R E d mX10_isLetter k n 7 [a0] st S iv Q := am_bipush dX10_isLetter_7 (by decide) h
theorem sX10_isLetter_9 {ls : List Value} {x y : Int32} (kt : y < x → am_R E d mX10_isLetter k n 16 ls st S iv Q) (kf : ¬ y < x → am_R E d mX10_isLetter k n 12 ls st S iv Q) : am_R E d mX10_isLetter k n 9 ls (.int y :: .int x :: st) S iv Q := am_icmp_gt dX10_isLetter_9 (by decide) kt kf
theorem sX10_isLetter_12 {a0 : Value} (h : am_R E d mX10_isLetter k n 13 [a0] (.int 1 :: st) S iv Q) : am_R E d mX10_isLetter k n 12 [a0] st S iv Q := am_iconst dX10_isLetter_12 (by decide) h
theorem sX10_isLetter_13 {ls : List Value} (h : am_R E d mX10_isLetter k n 17 ls st S iv Q) : am_R E d mX10_isLetter k n 13 ls st S iv Q := am_goto dX10_isLetter_13 (by decide) h
theorem sX10_isLetter_16 {a0 : Value} (h : am_R E d mX10_isLetter k n 17 [a0] (.int 0 :: st) S iv Q) : am_R E d mX10_isLetter k n 16 [a0] st S iv Q := am_iconst dX10_isLetter_16 (by decide) h
theorem sX10_isLetter_17 {ls : List Value} {x : Int32} (hn : narrow .boolean (.int x) = .int x) (h : Q (.inl (some (.int x))) S iv) : am_R E d mX10_isLetter k n 17 ls [.int x] S iv Q := am_zreturn dX10_isLetter_17 rfl hn h
theorem dX10_isDigit_0 : decode cX10_isDigit 0 = .ok (.iload_n 0, 1) := by decide +kernel
theorem dX10_isDigit_1 : decode cX10_isDigit 1 = .ok (.bipush 48, 2) := by decide +kernel
theorem dX10_isDigit_3 : decode cX10_isDigit 3 = .ok (.if_icmp .lt 13, 3) := by decide +kernel
theorem dX10_isDigit_6 : decode cX10_isDigit 6 = .ok (.iload_n 0, 1) := by decide +kernel
theorem dX10_isDigit_7 : decode cX10_isDigit 7 = .ok (.bipush 57, 2) := by decide +kernel
theorem dX10_isDigit_9 : decode cX10_isDigit 9 = .ok (.if_icmp .gt 7, 3) := by decide +kernel
theorem dX10_isDigit_12 : decode cX10_isDigit 12 = .ok (.iconst 1, 1) := by decide +kernel
theorem dX10_isDigit_13 : decode cX10_isDigit 13 = .ok (.goto 4, 3) := by decide +kernel
theorem dX10_isDigit_16 : decode cX10_isDigit 16 = .ok (.iconst 0, 1) := by decide +kernel
theorem dX10_isDigit_17 : decode cX10_isDigit 17 = .ok (.ireturn, 1) := by decide +kernel
theorem sX10_isDigit_0 {x : Int32} (h : am_R E d mX10_isDigit k n 1 [.int x] (.int x :: st) S iv Q) : am_R E d mX10_isDigit k n 0 [.int x] st S iv Q := am_iload_n dX10_isDigit_0 rfl rfl h
theorem sX10_isDigit_1 {a0 : Value} (h : am_R E d mX10_isDigit k n 3 [a0] (.int 48 :: st) S iv Q) : am_R E d mX10_isDigit k n 1 [a0] st S iv Q := am_bipush dX10_isDigit_1 (by decide) h
theorem sX10_isDigit_3 {ls : List Value} {x y : Int32} (kt : x < y → am_R E d mX10_isDigit k n 16 ls st S iv Q) (kf : ¬ x < y → am_R E d mX10_isDigit k n 6 ls st S iv Q) : am_R E d mX10_isDigit k n 3 ls (.int y :: .int x :: st) S iv Q := am_icmp_lt dX10_isDigit_3 (by decide) kt kf
theorem sX10_isDigit_6 {x : Int32} (h : am_R E d mX10_isDigit k n 7 [.int x] (.int x :: st) S iv Q) : am_R E d mX10_isDigit k n 6 [.int x] st S iv Q := am_iload_n dX10_isDigit_6 rfl rfl h
theorem sX10_isDigit_7 {a0 : Value} (h : am_R E d mX10_isDigit k n 9 [a0] (.int 57 :: st) S iv Q) : am_R E d mX10_isDigit k n 7 [a0] st S iv Q := am_bipush dX10_isDigit_7 (by decide) h
theorem sX10_isDigit_9 {ls : List Value} {x y : Int32} (kt : y < x → am_R E d mX10_isDigit k n 16 ls st S iv Q) (kf : ¬ y < x → am_R E d mX10_isDigit k n 12 ls st S iv Q) : am_R E d mX10_isDigit k n 9 ls (.int y :: .int x :: st) S iv Q := am_icmp_gt dX10_isDigit_9 (by decide) kt kf
theorem sX10_isDigit_12 {a0 : Value} (h : am_R E d mX10_isDigit k n 13 [a0] (.int 1 :: st) S iv Q) : am_R E d mX10_isDigit k n 12 [a0] st S iv Q := am_iconst dX10_isDigit_12 (by decide) h
theorem sX10_isDigit_13 {ls : List Value} (h : am_R E d mX10_isDigit k n 17 ls st S iv Q) : am_R E d mX10_isDigit k n 13 ls st S iv Q := am_goto dX10_isDigit_13 (by decide) h
theorem sX10_isDigit_16 {a0 : Value} (h : am_R E d mX10_isDigit k n 17 [a0] (.int 0 :: st) S iv Q) : am_R E d mX10_isDigit k n 16 [a0] st S iv Q := am_iconst dX10_isDigit_16 (by decide) h
theorem sX10_isDigit_17 {ls : List Value} {x : Int32} (hn : narrow .boolean (.int x) = .int x) (h : Q (.inl (some (.int x))) S iv) : am_R E d mX10_isDigit k n 17 ls [.int x] S iv Q := am_zreturn dX10_isDigit_17 rfl hn h
theorem dX10_isMark_0 : decode cX10_isMark 0 = .ok (.iload_n 0, 1) := by decide +kernel
theorem dX10_isMark_1 : decode cX10_isMark 1 = .ok (.bipush 59, 2) := by decide +kernel
theorem dX10_isMark_3 : decode cX10_isMark 3 = .ok (.if_icmp .eq 51, 3) := by decide +kernel
theorem dX10_isMark_6 : decode cX10_isMark 6 = .ok (.iload_n 0, 1) := by decide +kernel
theorem dX10_isMark_7 : decode cX10_isMark 7 = .ok (.bipush 40, 2) := by decide +kernel
theorem dX10_isMark_9 : decode cX10_isMark 9 = .ok (.if_icmp .eq 45, 3) := by decide +kernel
theorem dX10_isMark_12 : decode cX10_isMark 12 = .ok (.iload_n 0, 1) := by decide +kernel
theorem dX10_isMark_13 : decode cX10_isMark 13 = .ok (.bipush 41, 2) := by decide +kernel
theorem dX10_isMark_15 : decode cX10_isMark 15 = .ok (.if_icmp .eq 39, 3) := by decide +kernel
theorem dX10_isMark_18 : decode cX10_isMark 18 = .ok (.iload_n 0, 1) := by decide +kernel
theorem dX10_isMark_19 : decode cX10_isMark 19 = .ok (.bipush 43, 2) := by decide +kernel
theorem dX10_isMark_21 : decode cX10_isMark 21 = .ok (.if_icmp .eq 33, 3) := by decide +kernel
theorem dX10_isMark_24 : decode cX10_isMark 24 = .ok (.iload_n 0, 1) := by decide +kernel
theorem dX10_isMark_25 : decode cX10_isMark 25 = .ok (.bipush 45, 2) := by decide +kernel
theorem dX10_isMark_27 : decode cX10_isMark 27 = .ok (.if_icmp .eq 27, 3) := by decide +kernel
theorem dX10_isMark_30 : decode cX10_isMark 30 = .ok (.iload_n 0, 1) := by decide +kernel
theorem dX10_isMark_31 : decode cX10_isMark 31 = .ok (.bipush 42, 2) := by decide +kernel
theorem dX10_isMark_33 : decode cX10_isMark 33 = .ok (.if_icmp .eq 21, 3) := by decide +kernel
theorem dX10_isMark_36 : decode cX10_isMark 36 = .ok (.iload_n 0, 1) := by decide +kernel
theorem dX10_isMark_37 : decode cX10_isMark 37 = .ok (.bipush 47, 2) := by decide +kernel
theorem dX10_isMark_39 : decode cX10_isMark 39 = .ok (.if_icmp .eq 15, 3) := by decide +kernel
theorem dX10_isMark_42 : decode cX10_isMark 42 = .ok (.iload_n 0, 1) := by decide +kernel
theorem dX10_isMark_43 : decode cX10_isMark 43 = .ok (.bipush 60, 2) := by decide +kernel
theorem dX10_isMark_45 : decode cX10_isMark 45 = .ok (.if_icmp .eq 9, 3) := by decide +kernel
theorem dX10_isMark_48 : decode cX10_isMark 48 = .ok (.iload_n 0, 1) := by decide +kernel
theorem dX10_isMark_49 : decode cX10_isMark 49 = .ok (.bipush 61, 2) := by decide +kernel
theorem dX10_isMark_51 : decode cX10_isMark 51 = .ok (.if_icmp .ne 7, 3) := by decide +kernel
theorem dX10_isMark_54 : decode cX10_isMark 54 = .ok (.iconst 1, 1) := by decide +kernel
theorem dX10_isMark_55 : decode cX10_isMark 55 = .ok (.goto 4, 3) := by decide +kernel
theorem dX10_isMark_58 : decode cX10_isMark 58 = .ok (.iconst 0, 1) := by decide +kernel
theorem dX10_isMark_59 : decode cX10_isMark 59 = .ok (.ireturn, 1) := by decide +kernel
theorem sX10_isMark_0 {x : Int32} (h : am_R E d mX10_isMark k n 1 [.int x] (.int x :: st) S iv Q) : am_R E d mX10_isMark k n 0 [.int x] st S iv Q := am_iload_n dX10_isMark_0 rfl rfl h
theorem sX10_isMark_1 {a0 : Value} (h : am_R E d mX10_isMark k n 3 [a0] (.int 59 :: st) S iv Q) : am_R E d mX10_isMark k n 1 [a0] st S iv Q := am_bipush dX10_isMark_1 (by decide) h
theorem sX10_isMark_3 {ls : List Value} {x y : Int32} (kt : x = y → am_R E d mX10_isMark k n 54 ls st S iv Q) (kf : ¬ x = y → am_R E d mX10_isMark k n 6 ls st S iv Q) : am_R E d mX10_isMark k n 3 ls (.int y :: .int x :: st) S iv Q := am_icmp_eq dX10_isMark_3 (by decide) kt kf
theorem sX10_isMark_6 {x : Int32} (h : am_R E d mX10_isMark k n 7 [.int x] (.int x :: st) S iv Q) : am_R E d mX10_isMark k n 6 [.int x] st S iv Q := am_iload_n dX10_isMark_6 rfl rfl h
theorem sX10_isMark_7 {a0 : Value} (h : am_R E d mX10_isMark k n 9 [a0] (.int 40 :: st) S iv Q) : am_R E d mX10_isMark k n 7 [a0] st S iv Q := am_bipush dX10_isMark_7 (by decide) h
theorem sX10_isMark_9 {ls : List Value} {x y : Int32} (kt : x = y → am_R E d mX10_isMark k n 54 ls st S iv Q) (kf : ¬ x = y → am_R E d mX10_isMark k n 12 ls st S iv Q) : am_R E d mX10_isMark k n 9 ls (.int y :: .int x :: st) S iv Q := am_icmp_eq dX10_isMark_9 (by decide) kt kf
theorem sX10_isMark_12 {x : Int32} (h : am_R E d mX10_isMark k n 13 [.int x] (.int x :: st) S iv Q) : am_R E d mX10_isMark k n 12 [.int x] st S iv Q := am_iload_n dX10_isMark_12 rfl rfl h
theorem sX10_isMark_13 {a0 : Value} (h : am_R E d mX10_isMark k n 15 [a0] (.int 41 :: st) S iv Q) : am_R E d mX10_isMark k n 13 [a0] st S iv Q := am_bipush dX10_isMark_13 (by decide) h
theorem sX10_isMark_15 {ls : List Value} {x y : Int32} (kt : x = y → am_R E d mX10_isMark k n 54 ls st S iv Q) (kf : ¬ x = y → am_R E d mX10_isMark k n 18 ls st S iv Q) : am_R E d mX10_isMark k n 15 ls (.int y :: .int x :: st) S iv Q := am_icmp_eq dX10_isMark_15 (by decide) kt kf
theorem sX10_isMark_18 {x : Int32} (h : am_R E d mX10_isMark k n 19 [.int x] (.int x :: st) S iv Q) : am_R E d mX10_isMark k n 18 [.int x] st S iv Q := am_iload_n dX10_isMark_18 rfl rfl h
theorem sX10_isMark_19 {a0 : Value} (h : am_R E d mX10_isMark k n 21 [a0] (.int 43 :: st) S iv Q) : am_R E d mX10_isMark k n 19 [a0] st S iv Q := am_bipush dX10_isMark_19 (by decide) h
theorem sX10_isMark_21 {ls : List Value} {x y : Int32} (kt : x = y → am_R E d mX10_isMark k n 54 ls st S iv Q) (kf : ¬ x = y → am_R E d mX10_isMark k n 24 ls st S iv Q) : am_R E d mX10_isMark k n 21 ls (.int y :: .int x :: st) S iv Q := am_icmp_eq dX10_isMark_21 (by decide) kt kf
theorem sX10_isMark_24 {x : Int32} (h : am_R E d mX10_isMark k n 25 [.int x] (.int x :: st) S iv Q) : am_R E d mX10_isMark k n 24 [.int x] st S iv Q := am_iload_n dX10_isMark_24 rfl rfl h
theorem sX10_isMark_25 {a0 : Value} (h : am_R E d mX10_isMark k n 27 [a0] (.int 45 :: st) S iv Q) : am_R E d mX10_isMark k n 25 [a0] st S iv Q := am_bipush dX10_isMark_25 (by decide) h
theorem sX10_isMark_27 {ls : List Value} {x y : Int32} (kt : x = y → am_R E d mX10_isMark k n 54 ls st S iv Q) (kf : ¬ x = y → am_R E d mX10_isMark k n 30 ls st S iv Q) : am_R E d mX10_isMark k n 27 ls (.int y :: .int x :: st) S iv Q := am_icmp_eq dX10_isMark_27 (by decide) kt kf
theorem sX10_isMark_30 {x : Int32} (h : am_R E d mX10_isMark k n 31 [.int x] (.int x :: st) S iv Q) : am_R E d mX10_isMark k n 30 [.int x] st S iv Q := am_iload_n dX10_isMark_30 rfl rfl h
theorem sX10_isMark_31 {a0 : Value} (h : am_R E d mX10_isMark k n 33 [a0] (.int 42 :: st) S iv Q) : am_R E d mX10_isMark k n 31 [a0] st S iv Q := am_bipush dX10_isMark_31 (by decide) h
theorem sX10_isMark_33 {ls : List Value} {x y : Int32} (kt : x = y → am_R E d mX10_isMark k n 54 ls st S iv Q) (kf : ¬ x = y → am_R E d mX10_isMark k n 36 ls st S iv Q) : am_R E d mX10_isMark k n 33 ls (.int y :: .int x :: st) S iv Q := am_icmp_eq dX10_isMark_33 (by decide) kt kf
theorem sX10_isMark_36 {x : Int32} (h : am_R E d mX10_isMark k n 37 [.int x] (.int x :: st) S iv Q) : am_R E d mX10_isMark k n 36 [.int x] st S iv Q := am_iload_n dX10_isMark_36 rfl rfl h
theorem sX10_isMark_37 {a0 : Value} (h : am_R E d mX10_isMark k n 39 [a0] (.int 47 :: st) S iv Q) : am_R E d mX10_isMark k n 37 [a0] st S iv Q := am_bipush dX10_isMark_37 (by decide) h
theorem sX10_isMark_39 {ls : List Value} {x y : Int32} (kt : x = y → am_R E d mX10_isMark k n 54 ls st S iv Q) (kf : ¬ x = y → am_R E d mX10_isMark k n 42 ls st S iv Q) : am_R E d mX10_isMark k n 39 ls (.int y :: .int x :: st) S iv Q := am_icmp_eq dX10_isMark_39 (by decide) kt kf
theorem sX10_isMark_42 {x : Int32} (h : am_R E d mX10_isMark k n 43 [.int x] (.int x :: st) S iv Q) : am_R E d mX10_isMark k n 42 [.int x] st S iv Q := am_iload_n dX10_isMark_42 rfl rfl h
theorem sX10_isMark_43 {a0 : Value} (h : am_R E d mX10_isMark k n 45 [a0] (.int 60 :: st) S iv Q) : am_R E d mX10_isMark k n 43 [a0] st S iv Q := am_bipush dX10_isMark_43 (by decide) h
theorem sX10_isMark_45 {ls : List Value} {x y : Int32} (kt : x = y → am_R E d mX10_isMark k n 54 ls st S iv Q) (kf : ¬ x = y → am_R E d mX10_isMark k n 48 ls st S iv Q) : am_R E d mX10_isMark k n 45 ls (.int y :: .int x :: st) S iv Q := am_icmp_eq dX10_isMark_45 (by decide) kt kf
theorem sX10_isMark_48 {x : Int32} (h : am_R E d mX10_isMark k n 49 [.int x] (.int x :: st) S iv Q) : am_R E d mX10_isMark k n 48 [.int x] st S iv Q := am_iload_n dX10_isMark_48 rfl rfl h
theorem sX10_isMark_49 {a0 : Value} (h : am_R E d mX10_isMark k n 51 [a0] (.int 61 :: st) S iv Q) : am_R E d mX10_isMark k n 49 [a0] st S iv Q := am_bipush dX10_isMark_49 (by decide) h
theorem sX10_isMark_51 {ls : List Value} {x y : Int32} (kt : ¬ x = y → am_R E d mX10_isMark k n 58 ls st S iv Q) (kf : x = y → am_R E d mX10_isMark k n 54 ls st S iv Q) : am_R E d mX10_isMark k n 51 ls (.int y :: .int x :: st) S iv Q := am_icmp_ne dX10_isMark_51 (by decide) kt kf
theorem sX10_isMark_54 {a0 : Value} (h : am_R E d mX10_isMark k n 55 [a0] (.int 1 :: st) S iv Q) : am_R E d mX10_isMark k n 54 [a0] st S iv Q := am_iconst dX10_isMark_54 (by decide) h
theorem sX10_isMark_55 {ls : List Value} (h : am_R E d mX10_isMark k n 59 ls st S iv Q) : am_R E d mX10_isMark k n 55 ls st S iv Q := am_goto dX10_isMark_55 (by decide) h
theorem sX10_isMark_58 {a0 : Value} (h : am_R E d mX10_isMark k n 59 [a0] (.int 0 :: st) S iv Q) : am_R E d mX10_isMark k n 58 [a0] st S iv Q := am_iconst dX10_isMark_58 (by decide) h
theorem sX10_isMark_59 {ls : List Value} {x : Int32} (hn : narrow .boolean (.int x) = .int x) (h : Q (.inl (some (.int x))) S iv) : am_R E d mX10_isMark k n 59 ls [.int x] S iv Q := am_zreturn dX10_isMark_59 rfl hn h
theorem dX10_stepOn_0 : decode cX10_stepOn 0 = .ok (.aload_n 0, 1) := by decide +kernel
theorem dX10_stepOn_1 : decode cX10_stepOn 1 = .ok (.aload_n 0, 1) := by decide +kernel
theorem dX10_stepOn_2 : decode cX10_stepOn 2 = .ok (.getfield 156, 3) := by decide +kernel
theorem dX10_stepOn_5 : decode cX10_stepOn 5 = .ok (.invokevirtual 159, 3) := by decide +kernel
theorem dX10_stepOn_8 : decode cX10_stepOn 8 = .ok (.bipush 32, 2) := by decide +kernel
theorem dX10_stepOn_10 : decode cX10_stepOn 10 = .ok (.if_icmp .eq 16, 3) := by decide +kernel
theorem dX10_stepOn_13 : decode cX10_stepOn 13 = .ok (.aload_n 0, 1) := by decide +kernel
theorem dX10_stepOn_14 : decode cX10_stepOn 14 = .ok (.aload_n 0, 1) := by decide +kernel
theorem dX10_stepOn_15 : decode cX10_stepOn 15 = .ok (.getfield 156, 3) := by decide +kernel
theorem dX10_stepOn_18 : decode cX10_stepOn 18 = .ok (.invokevirtual 159, 3) := by decide +kernel
theorem dX10_stepOn_21 : decode cX10_stepOn 21 = .ok (.bipush 10, 2) := by decide +kernel
theorem dX10_stepOn_23 : decode cX10_stepOn 23 = .ok (.if_icmp .ne 16, 3) := by decide +kernel
theorem dX10_stepOn_26 : decode cX10_stepOn 26 = .ok (.aload_n 0, 1) := by decide +kernel
theorem dX10_stepOn_27 : decode cX10_stepOn 27 = .ok (.dup, 1) := by decide +kernel
theorem dX10_stepOn_28 : decode cX10_stepOn 28 = .ok (.getfield 156, 3) := by decide +kernel
theorem dX10_stepOn_31 : decode cX10_stepOn 31 = .ok (.iconst 1, 1) := by decide +kernel
theorem dX10_stepOn_32 : decode cX10_stepOn 32 = .ok (.iadd, 1) := by decide +kernel
theorem dX10_stepOn_33 : decode cX10_stepOn 33 = .ok (.putfield 156, 3) := by decide +kernel
theorem dX10_stepOn_36 : decode cX10_stepOn 36 = .ok (.goto (-36), 3) := by decide +kernel
theorem dX10_stepOn_39 : decode cX10_stepOn 39 = .ok (.aload_n 0, 1) := by decide +kernel
theorem dX10_stepOn_40 : decode cX10_stepOn 40 = .ok (.aload_n 0, 1) := by decide +kernel
theorem dX10_stepOn_41 : decode cX10_stepOn 41 = .ok (.getfield 156, 3) := by decide +kernel
theorem dX10_stepOn_44 : decode cX10_stepOn 44 = .ok (.putfield 163, 3) := by decide +kernel
theorem dX10_stepOn_47 : decode cX10_stepOn 47 = .ok (.aload_n 0, 1) := by decide +kernel
theorem dX10_stepOn_48 : decode cX10_stepOn 48 = .ok (.aload_n 0, 1) := by decide +kernel
theorem dX10_stepOn_49 : decode cX10_stepOn 49 = .ok (.getfield 156, 3) := by decide +kernel
theorem dX10_stepOn_52 : decode cX10_stepOn 52 = .ok (.invokevirtual 159, 3) := by decide +kernel
theorem dX10_stepOn_55 : decode cX10_stepOn 55 = .ok (.istore_n 1, 1) := by decide +kernel
theorem dX10_stepOn_56 : decode cX10_stepOn 56 = .ok (.iload_n 1, 1) := by decide +kernel
theorem dX10_stepOn_57 : decode cX10_stepOn 57 = .ok (.iconst (-1), 1) := by decide +kernel
theorem dX10_stepOn_58 : decode cX10_stepOn 58 = .ok (.if_icmp .ne 11, 3) := by decide +kernel
theorem dX10_stepOn_61 : decode cX10_stepOn 61 = .ok (.aload_n 0, 1) := by decide +kernel
theorem dX10_stepOn_62 : decode cX10_stepOn 62 = .ok (.iconst 0, 1) := by decide +kernel
theorem dX10_stepOn_63 : decode cX10_stepOn 63 = .ok (.putfield 166, 3) := by decide +kernel
theorem dX10_stepOn_66 : decode cX10_stepOn 66 = .ok (.goto 146, 3) := by decide +kernel
theorem dX10_stepOn_69 : decode cX10_stepOn 69 = .ok (.iload_n 1, 1) := by decide +kernel
theorem dX10_stepOn_70 : decode cX10_stepOn 70 = .ok (.invokestatic 169, 3) := by decide +kernel
theorem dX10_stepOn_73 : decode cX10_stepOn 73 = .ok (.ifCond .eq 38, 3) := by decide +kernel
theorem dX10_stepOn_76 : decode cX10_stepOn 76 = .ok (.aload_n 0, 1) := by decide +kernel
theorem dX10_stepOn_77 : decode cX10_stepOn 77 = .ok (.aload_n 0, 1) := by decide +kernel
theorem dX10_stepOn_78 : decode cX10_stepOn 78 = .ok (.getfield 156, 3) := by decide +kernel
theorem dX10_stepOn_81 : decode cX10_stepOn 81 = .ok (.invokevirtual 159, 3) := by decide +kernel
theorem dX10_stepOn_84 : decode cX10_stepOn 84 = .ok (.invokestatic 169, 3) := by decide +kernel
theorem dX10_stepOn_87 : decode cX10_stepOn 87 = .ok (.ifCond .eq 16, 3) := by decide +kernel
theorem dX10_stepOn_90 : decode cX10_stepOn 90 = .ok (.aload_n 0, 1) := by decide +kernel
theorem dX10_stepOn_91 : decode cX10_stepOn 91 = .ok (.dup, 1) := by decide +kernel
theorem dX10_stepOn_92 : decode cX10_stepOn 92 = .ok (.getfield 156, 3) := by decide +kernel
theorem dX10_stepOn_95 : decode cX10_stepOn 95 = .ok (.iconst 1, 1) := by decide +kernel
theorem dX10_stepOn_96 : decode cX10_stepOn 96 = .ok (.iadd, 1) := by decide +kernel
theorem dX10_stepOn_97 : decode cX10_stepOn 97 = .ok (.putfield 156, 3) := by decide +kernel
theorem dX10_stepOn_100 : decode cX10_stepOn 100 = .ok (.goto (-24), 3) := by decide +kernel
theorem dX10_stepOn_103 : decode cX10_stepOn 103 = .ok (.aload_n 0, 1) := by decide +kernel
theorem dX10_stepOn_104 : decode cX10_stepOn 104 = .ok (.iconst 1, 1) := by decide +kernel
theorem dX10_stepOn_105 : decode cX10_stepOn 105 = .ok (.putfield 166, 3) := by decide +kernel
theorem dX10_stepOn_108 : decode cX10_stepOn 108 = .ok (.goto 104, 3) := by decide +kernel
theorem dX10_stepOn_111 : decode cX10_stepOn 111 = .ok (.iload_n 1, 1) := by decide +kernel
theorem dX10_stepOn_112 : decode cX10_stepOn 112 = .ok (.invokestatic 173, 3) := by decide +kernel
theorem dX10_stepOn_115 : decode cX10_stepOn 115 = .ok (.ifCond .eq 71, 3) := by decide +kernel
theorem dX10_stepOn_118 : decode cX10_stepOn 118 = .ok (.aload_n 0, 1) := by decide +kernel
theorem dX10_stepOn_119 : decode cX10_stepOn 119 = .ok (.iconst 0, 1) := by decide +kernel
theorem dX10_stepOn_120 : decode cX10_stepOn 120 = .ok (.putfield 176, 3) := by decide +kernel
theorem dX10_stepOn_123 : decode cX10_stepOn 123 = .ok (.aload_n 0, 1) := by decide +kernel
theorem dX10_stepOn_124 : decode cX10_stepOn 124 = .ok (.aload_n 0, 1) := by decide +kernel
theorem dX10_stepOn_125 : decode cX10_stepOn 125 = .ok (.getfield 156, 3) := by decide +kernel
theorem dX10_stepOn_128 : decode cX10_stepOn 128 = .ok (.invokevirtual 159, 3) := by decide +kernel
theorem dX10_stepOn_131 : decode cX10_stepOn 131 = .ok (.invokestatic 173, 3) := by decide +kernel
theorem dX10_stepOn_134 : decode cX10_stepOn 134 = .ok (.ifCond .eq 44, 3) := by decide +kernel
theorem dX10_stepOn_137 : decode cX10_stepOn 137 = .ok (.aload_n 0, 1) := by decide +kernel
theorem dX10_stepOn_138 : decode cX10_stepOn 138 = .ok (.ldc 179, 2) := by decide +kernel
theorem dX10_stepOn_140 : decode cX10_stepOn 140 = .ok (.bipush 10, 2) := by decide +kernel
theorem dX10_stepOn_142 : decode cX10_stepOn 142 = .ok (.aload_n 0, 1) := by decide +kernel
theorem dX10_stepOn_143 : decode cX10_stepOn 143 = .ok (.getfield 176, 3) := by decide +kernel
theorem dX10_stepOn_146 : decode cX10_stepOn 146 = .ok (.imul, 1) := by decide +kernel
theorem dX10_stepOn_147 : decode cX10_stepOn 147 = .ok (.aload_n 0, 1) := by decide +kernel
theorem dX10_stepOn_148 : decode cX10_stepOn 148 = .ok (.aload_n 0, 1) := by decide +kernel
theorem dX10_stepOn_149 : decode cX10_stepOn 149 = .ok (.getfield 156, 3) := by decide +kernel
theorem dX10_stepOn_152 : decode cX10_stepOn 152 = .ok (.invokevirtual 159, 3) := by decide +kernel
theorem dX10_stepOn_155 : decode cX10_stepOn 155 = .ok (.iadd, 1) := by decide +kernel
theorem dX10_stepOn_156 : decode cX10_stepOn 156 = .ok (.bipush 48, 2) := by decide +kernel
theorem dX10_stepOn_158 : decode cX10_stepOn 158 = .ok (.isub, 1) := by decide +kernel
theorem dX10_stepOn_159 : decode cX10_stepOn 159 = .ok (.invokestatic 180, 3) := by decide +kernel
theorem dX10_stepOn_162 : decode cX10_stepOn 162 = .ok (.putfield 176, 3) := by decide +kernel
theorem dX10_stepOn_165 : decode cX10_stepOn 165 = .ok (.aload_n 0, 1) := by decide +kernel
theorem dX10_stepOn_166 : decode cX10_stepOn 166 = .ok (.dup, 1) := by decide +kernel
theorem dX10_stepOn_167 : decode cX10_stepOn 167 = .ok (.getfield 156, 3) := by decide +kernel
theorem dX10_stepOn_170 : decode cX10_stepOn 170 = .ok (.iconst 1, 1) := by decide +kernel
theorem dX10_stepOn_171 : decode cX10_stepOn 171 = .ok (.iadd, 1) := by decide +kernel
theorem dX10_stepOn_172 : decode cX10_stepOn 172 = .ok (.putfield 156, 3) := by decide +kernel
theorem dX10_stepOn_175 : decode cX10_stepOn 175 = .ok (.goto (-52), 3) := by decide +kernel
theorem dX10_stepOn_178 : decode cX10_stepOn 178 = .ok (.aload_n 0, 1) := by decide +kernel
theorem dX10_stepOn_179 : decode cX10_stepOn 179 = .ok (.iconst 2, 1) := by decide +kernel
theorem dX10_stepOn_180 : decode cX10_stepOn 180 = .ok (.putfield 166, 3) := by decide +kernel
theorem dX10_stepOn_183 : decode cX10_stepOn 183 = .ok (.goto 29, 3) := by decide +kernel
theorem dX10_stepOn_186 : decode cX10_stepOn 186 = .ok (.aload_n 0, 1) := by decide +kernel
theorem dX10_stepOn_187 : decode cX10_stepOn 187 = .ok (.dup, 1) := by decide +kernel
theorem dX10_stepOn_188 : decode cX10_stepOn 188 = .ok (.getfield 156, 3) := by decide +kernel
theorem dX10_stepOn_191 : decode cX10_stepOn 191 = .ok (.iconst 1, 1) := by decide +kernel
theorem dX10_stepOn_192 : decode cX10_stepOn 192 = .ok (.iadd, 1) := by decide +kernel
theorem dX10_stepOn_193 : decode cX10_stepOn 193 = .ok (.putfield 156, 3) := by decide +kernel
theorem dX10_stepOn_196 : decode cX10_stepOn 196 = .ok (.aload_n 0, 1) := by decide +kernel
theorem dX10_stepOn_197 : decode cX10_stepOn 197 = .ok (.iload_n 1, 1) := by decide +kernel
theorem dX10_stepOn_198 : decode cX10_stepOn 198 = .ok (.invokestatic 186, 3) := by decide +kernel
theorem dX10_stepOn_201 : decode cX10_stepOn 201 = .ok (.ifCond .eq 7, 3) := by decide +kernel
theorem dX10_stepOn_204 : decode cX10_stepOn 204 = .ok (.iconst 3, 1) := by decide +kernel
theorem dX10_stepOn_205 : decode cX10_stepOn 205 = .ok (.goto 4, 3) := by decide +kernel
theorem dX10_stepOn_208 : decode cX10_stepOn 208 = .ok (.iconst 4, 1) := by decide +kernel
theorem dX10_stepOn_209 : decode cX10_stepOn 209 = .ok (.putfield 166, 3) := by decide +kernel
theorem dX10_stepOn_212 : decode cX10_stepOn 212 = .ok (.aload_n 0, 1) := by decide +kernel
theorem dX10_stepOn_213 : decode cX10_stepOn 213 = .ok (.aload_n 0, 1) := by decide +kernel
theorem dX10_stepOn_214 : decode cX10_stepOn 214 = .ok (.getfield 156, 3) := by decide +kernel
theorem dX10_stepOn_217 : decode cX10_stepOn 217 = .ok (.putfield 189, 3) := by decide +kernel
theorem dX10_stepOn_220 : decode cX10_stepOn 220 = .ok (.return_, 1) := by decide +kernel
theorem sX10_stepOn_0 {a0 a1 : Value} (hv : am_rf a0 = true) (h : am_R E d mX10_stepOn k n 1 [a0, a1] (a0 :: st) S iv Q) : am_R E d mX10_stepOn k n 0 [a0, a1] st S iv Q := am_aload_n dX10_stepOn_0 rfl rfl hv h
theorem sX10_stepOn_1 {a0 a1 : Value} (hv : am_rf a0 = true) (h : am_R E d mX10_stepOn k n 2 [a0, a1] (a0 :: st) S iv Q) : am_R E d mX10_stepOn k n 1 [a0, a1] st S iv Q := am_aload_n dX10_stepOn_1 rfl rfl hv h
theorem sX10_stepOn_2 {ls : List Value} {a : Nat} (ha : S.1 a = some (.inl 10)) (h : am_R E d mX10_stepOn k n 5 ls (.int (iv a 19) :: st) S iv Q) : am_R E d mX10_stepOn k n 2 ls (.ref a :: st) S iv Q := am_getI (ci := 10) dX10_stepOn_2 rfl rfl (by decide) wq_814 uq_10 rfl ha h
theorem sX10_stepOn_5 {ls : List Value} {x1 : Value} {a : Nat} (ha : S.1 a = some (.inl 10)) (hst : (st.map fun v => v.category).sum ≤ 8) (hM : am_M E d mX10_byteAt 0 0 [.ref a, x1] S iv (am_K3 E (d + 1) mX10_stepOn k n 5 ls st Q)) : am_R E (d + 1) mX10_stepOn k n 5 ls (x1 :: .ref a :: st) S iv Q := am_cV (ci := 10) (M' := mX10_byteAt) (as := [x1]) dX10_stepOn_5 rfl rfl rfl wq_817 wq_818 wq_819 wq_808 wq_815 hy_X10_byteAt (by decide) ha hst (by omega) (by omega) hM
theorem sX10_stepOn_5_k {ls : List Value} {x1 : Value} {k' n' : Nat} {a : Nat} (ha : S.1 a = some (.inl 10)) (hst : (st.map fun v => v.category).sum ≤ 8) (hM : am_M E d mX10_byteAt k' n' [.ref a, x1] S iv (am_K3 E (d + 1) mX10_stepOn k n 5 ls st Q)) : am_R E (d + 1) mX10_stepOn (k' + k) (n' + n) 5 ls (x1 :: .ref a :: st) S iv Q := am_cV (ci := 10) (M' := mX10_byteAt) (as := [x1]) dX10_stepOn_5 rfl rfl rfl wq_817 wq_818 wq_819 wq_808 wq_815 hy_X10_byteAt (by decide) ha hst (by omega) (by omega) hM
theorem sX10_stepOn_8 {a0 a1 : Value} (h : am_R E d mX10_stepOn k n 10 [a0, a1] (.int 32 :: st) S iv Q) : am_R E d mX10_stepOn k n 8 [a0, a1] st S iv Q := am_bipush dX10_stepOn_8 (by decide) h
theorem sX10_stepOn_10 {ls : List Value} {x y : Int32} (kt : x = y → am_R E d mX10_stepOn k n 26 ls st S iv Q) (kf : ¬ x = y → am_R E d mX10_stepOn k n 13 ls st S iv Q) : am_R E d mX10_stepOn k n 10 ls (.int y :: .int x :: st) S iv Q := am_icmp_eq dX10_stepOn_10 (by decide) kt kf
theorem sX10_stepOn_13 {a0 a1 : Value} (hv : am_rf a0 = true) (h : am_R E d mX10_stepOn k n 14 [a0, a1] (a0 :: st) S iv Q) : am_R E d mX10_stepOn k n 13 [a0, a1] st S iv Q := am_aload_n dX10_stepOn_13 rfl rfl hv h
theorem sX10_stepOn_14 {a0 a1 : Value} (hv : am_rf a0 = true) (h : am_R E d mX10_stepOn k n 15 [a0, a1] (a0 :: st) S iv Q) : am_R E d mX10_stepOn k n 14 [a0, a1] st S iv Q := am_aload_n dX10_stepOn_14 rfl rfl hv h
theorem sX10_stepOn_15 {ls : List Value} {a : Nat} (ha : S.1 a = some (.inl 10)) (h : am_R E d mX10_stepOn k n 18 ls (.int (iv a 19) :: st) S iv Q) : am_R E d mX10_stepOn k n 15 ls (.ref a :: st) S iv Q := am_getI (ci := 10) dX10_stepOn_15 rfl rfl (by decide) wq_814 uq_10 rfl ha h
theorem sX10_stepOn_18 {ls : List Value} {x1 : Value} {a : Nat} (ha : S.1 a = some (.inl 10)) (hst : (st.map fun v => v.category).sum ≤ 8) (hM : am_M E d mX10_byteAt 0 0 [.ref a, x1] S iv (am_K3 E (d + 1) mX10_stepOn k n 18 ls st Q)) : am_R E (d + 1) mX10_stepOn k n 18 ls (x1 :: .ref a :: st) S iv Q := am_cV (ci := 10) (M' := mX10_byteAt) (as := [x1]) dX10_stepOn_18 rfl rfl rfl wq_817 wq_818 wq_819 wq_808 wq_815 hy_X10_byteAt (by decide) ha hst (by omega) (by omega) hM
theorem sX10_stepOn_18_k {ls : List Value} {x1 : Value} {k' n' : Nat} {a : Nat} (ha : S.1 a = some (.inl 10)) (hst : (st.map fun v => v.category).sum ≤ 8) (hM : am_M E d mX10_byteAt k' n' [.ref a, x1] S iv (am_K3 E (d + 1) mX10_stepOn k n 18 ls st Q)) : am_R E (d + 1) mX10_stepOn (k' + k) (n' + n) 18 ls (x1 :: .ref a :: st) S iv Q := am_cV (ci := 10) (M' := mX10_byteAt) (as := [x1]) dX10_stepOn_18 rfl rfl rfl wq_817 wq_818 wq_819 wq_808 wq_815 hy_X10_byteAt (by decide) ha hst (by omega) (by omega) hM
theorem sX10_stepOn_21 {a0 a1 : Value} (h : am_R E d mX10_stepOn k n 23 [a0, a1] (.int 10 :: st) S iv Q) : am_R E d mX10_stepOn k n 21 [a0, a1] st S iv Q := am_bipush dX10_stepOn_21 (by decide) h
theorem sX10_stepOn_23 {ls : List Value} {x y : Int32} (kt : ¬ x = y → am_R E d mX10_stepOn k n 39 ls st S iv Q) (kf : x = y → am_R E d mX10_stepOn k n 26 ls st S iv Q) : am_R E d mX10_stepOn k n 23 ls (.int y :: .int x :: st) S iv Q := am_icmp_ne dX10_stepOn_23 (by decide) kt kf
theorem sX10_stepOn_26 {a0 a1 : Value} (hv : am_rf a0 = true) (h : am_R E d mX10_stepOn k n 27 [a0, a1] (a0 :: st) S iv Q) : am_R E d mX10_stepOn k n 26 [a0, a1] st S iv Q := am_aload_n dX10_stepOn_26 rfl rfl hv h
theorem sX10_stepOn_27 {ls : List Value} {x : Value} (hv : x.category = 1) (h : am_R E d mX10_stepOn k n 28 ls (x :: x :: st) S iv Q) : am_R E d mX10_stepOn k n 27 ls (x :: st) S iv Q := am_dup dX10_stepOn_27 hv h
theorem sX10_stepOn_28 {ls : List Value} {a : Nat} (ha : S.1 a = some (.inl 10)) (h : am_R E d mX10_stepOn k n 31 ls (.int (iv a 19) :: st) S iv Q) : am_R E d mX10_stepOn k n 28 ls (.ref a :: st) S iv Q := am_getI (ci := 10) dX10_stepOn_28 rfl rfl (by decide) wq_814 uq_10 rfl ha h
theorem sX10_stepOn_31 {a0 a1 : Value} (h : am_R E d mX10_stepOn k n 32 [a0, a1] (.int 1 :: st) S iv Q) : am_R E d mX10_stepOn k n 31 [a0, a1] st S iv Q := am_iconst dX10_stepOn_31 (by decide) h
theorem sX10_stepOn_32 {ls : List Value} {x y : Int32} (h : am_R E d mX10_stepOn k n 33 ls (.int (x + y) :: st) S iv Q) : am_R E d mX10_stepOn k n 32 ls (.int y :: .int x :: st) S iv Q := am_iadd dX10_stepOn_32 h
theorem sX10_stepOn_33 {ls : List Value} {a : Nat} {x : Int32} (ha : S.1 a = some (.inl 10)) (h : am_R E d mX10_stepOn k n 36 ls st S (am_w iv a 19 x) Q) : am_R E d mX10_stepOn k n 33 ls (.int x :: .ref a :: st) S iv Q := am_putI (ci := 10) dX10_stepOn_33 rfl rfl (by decide) wq_814 uq_10 tyX10_ok nmX10 (Or.inl rfl) rfl ha h
theorem sX10_stepOn_36 {ls : List Value} (h : am_R E d mX10_stepOn k n 0 ls st S iv Q) : am_R E d mX10_stepOn k n 36 ls st S iv Q := am_goto dX10_stepOn_36 (by decide) h
theorem sX10_stepOn_39 {a0 a1 : Value} (hv : am_rf a0 = true) (h : am_R E d mX10_stepOn k n 40 [a0, a1] (a0 :: st) S iv Q) : am_R E d mX10_stepOn k n 39 [a0, a1] st S iv Q := am_aload_n dX10_stepOn_39 rfl rfl hv h
theorem sX10_stepOn_40 {a0 a1 : Value} (hv : am_rf a0 = true) (h : am_R E d mX10_stepOn k n 41 [a0, a1] (a0 :: st) S iv Q) : am_R E d mX10_stepOn k n 40 [a0, a1] st S iv Q := am_aload_n dX10_stepOn_40 rfl rfl hv h
theorem sX10_stepOn_41 {ls : List Value} {a : Nat} (ha : S.1 a = some (.inl 10)) (h : am_R E d mX10_stepOn k n 44 ls (.int (iv a 19) :: st) S iv Q) : am_R E d mX10_stepOn k n 41 ls (.ref a :: st) S iv Q := am_getI (ci := 10) dX10_stepOn_41 rfl rfl (by decide) wq_814 uq_10 rfl ha h
theorem sX10_stepOn_44 {ls : List Value} {a : Nat} {x : Int32} (ha : S.1 a = some (.inl 10)) (h : am_R E d mX10_stepOn k n 47 ls st S (am_w iv a 23 x) Q) : am_R E d mX10_stepOn k n 44 ls (.int x :: .ref a :: st) S iv Q := am_putI (ci := 10) dX10_stepOn_44 rfl rfl (by decide) wq_820 uq_10 tyX10_ok nmX10 (Or.inl rfl) rfl ha h
theorem sX10_stepOn_47 {a0 a1 : Value} (hv : am_rf a0 = true) (h : am_R E d mX10_stepOn k n 48 [a0, a1] (a0 :: st) S iv Q) : am_R E d mX10_stepOn k n 47 [a0, a1] st S iv Q := am_aload_n dX10_stepOn_47 rfl rfl hv h
theorem sX10_stepOn_48 {a0 a1 : Value} (hv : am_rf a0 = true) (h : am_R E d mX10_stepOn k n 49 [a0, a1] (a0 :: st) S iv Q) : am_R E d mX10_stepOn k n 48 [a0, a1] st S iv Q := am_aload_n dX10_stepOn_48 rfl rfl hv h
theorem sX10_stepOn_49 {ls : List Value} {a : Nat} (ha : S.1 a = some (.inl 10)) (h : am_R E d mX10_stepOn k n 52 ls (.int (iv a 19) :: st) S iv Q) : am_R E d mX10_stepOn k n 49 ls (.ref a :: st) S iv Q := am_getI (ci := 10) dX10_stepOn_49 rfl rfl (by decide) wq_814 uq_10 rfl ha h
theorem sX10_stepOn_52 {ls : List Value} {x1 : Value} {a : Nat} (ha : S.1 a = some (.inl 10)) (hst : (st.map fun v => v.category).sum ≤ 8) (hM : am_M E d mX10_byteAt 0 0 [.ref a, x1] S iv (am_K3 E (d + 1) mX10_stepOn k n 52 ls st Q)) : am_R E (d + 1) mX10_stepOn k n 52 ls (x1 :: .ref a :: st) S iv Q := am_cV (ci := 10) (M' := mX10_byteAt) (as := [x1]) dX10_stepOn_52 rfl rfl rfl wq_817 wq_818 wq_819 wq_808 wq_815 hy_X10_byteAt (by decide) ha hst (by omega) (by omega) hM
theorem sX10_stepOn_52_k {ls : List Value} {x1 : Value} {k' n' : Nat} {a : Nat} (ha : S.1 a = some (.inl 10)) (hst : (st.map fun v => v.category).sum ≤ 8) (hM : am_M E d mX10_byteAt k' n' [.ref a, x1] S iv (am_K3 E (d + 1) mX10_stepOn k n 52 ls st Q)) : am_R E (d + 1) mX10_stepOn (k' + k) (n' + n) 52 ls (x1 :: .ref a :: st) S iv Q := am_cV (ci := 10) (M' := mX10_byteAt) (as := [x1]) dX10_stepOn_52 rfl rfl rfl wq_817 wq_818 wq_819 wq_808 wq_815 hy_X10_byteAt (by decide) ha hst (by omega) (by omega) hM
theorem sX10_stepOn_55 {a0 a1 : Value} {x : Int32} (h : am_R E d mX10_stepOn k n 56 [a0, .int x] st S iv Q) : am_R E d mX10_stepOn k n 55 [a0, a1] (.int x :: st) S iv Q := am_istore_n dX10_stepOn_55 rfl (by decide) h
theorem sX10_stepOn_56 {a0 : Value} {x : Int32} (h : am_R E d mX10_stepOn k n 57 [a0, .int x] (.int x :: st) S iv Q) : am_R E d mX10_stepOn k n 56 [a0, .int x] st S iv Q := am_iload_n dX10_stepOn_56 rfl rfl h
theorem sX10_stepOn_57 {a0 a1 : Value} (h : am_R E d mX10_stepOn k n 58 [a0, a1] (.int (-1) :: st) S iv Q) : am_R E d mX10_stepOn k n 57 [a0, a1] st S iv Q := am_iconst dX10_stepOn_57 (by decide) h
theorem sX10_stepOn_58 {ls : List Value} {x y : Int32} (kt : ¬ x = y → am_R E d mX10_stepOn k n 69 ls st S iv Q) (kf : x = y → am_R E d mX10_stepOn k n 61 ls st S iv Q) : am_R E d mX10_stepOn k n 58 ls (.int y :: .int x :: st) S iv Q := am_icmp_ne dX10_stepOn_58 (by decide) kt kf
theorem sX10_stepOn_61 {a0 a1 : Value} (hv : am_rf a0 = true) (h : am_R E d mX10_stepOn k n 62 [a0, a1] (a0 :: st) S iv Q) : am_R E d mX10_stepOn k n 61 [a0, a1] st S iv Q := am_aload_n dX10_stepOn_61 rfl rfl hv h
theorem sX10_stepOn_62 {a0 a1 : Value} (h : am_R E d mX10_stepOn k n 63 [a0, a1] (.int 0 :: st) S iv Q) : am_R E d mX10_stepOn k n 62 [a0, a1] st S iv Q := am_iconst dX10_stepOn_62 (by decide) h
theorem sX10_stepOn_63 {ls : List Value} {a : Nat} {x : Int32} (ha : S.1 a = some (.inl 10)) (h : am_R E d mX10_stepOn k n 66 ls st S (am_w iv a 21 x) Q) : am_R E d mX10_stepOn k n 63 ls (.int x :: .ref a :: st) S iv Q := am_putI (ci := 10) dX10_stepOn_63 rfl rfl (by decide) wq_821 uq_10 tyX10_ok nmX10 (Or.inl rfl) rfl ha h
theorem sX10_stepOn_66 {ls : List Value} (h : am_R E d mX10_stepOn k n 212 ls st S iv Q) : am_R E d mX10_stepOn k n 66 ls st S iv Q := am_goto dX10_stepOn_66 (by decide) h
theorem sX10_stepOn_69 {a0 : Value} {x : Int32} (h : am_R E d mX10_stepOn k n 70 [a0, .int x] (.int x :: st) S iv Q) : am_R E d mX10_stepOn k n 69 [a0, .int x] st S iv Q := am_iload_n dX10_stepOn_69 rfl rfl h
theorem sX10_stepOn_70 {ls : List Value} {x1 : Value} (hst : (st.map fun v => v.category).sum ≤ 8) (hM : am_M E d mX10_isLetter 0 0 [x1] S iv (am_K3 E (d + 1) mX10_stepOn k n 70 ls st Q)) : am_R E (d + 1) mX10_stepOn k n 70 ls (x1 :: st) S iv Q := am_cS (M' := mX10_isLetter) (as := [x1]) dX10_stepOn_70 rfl wq_824 wq_825 wq_808 wq_822 hy_X10_isLetter (by decide) hst (by omega) (by omega) hM
theorem sX10_stepOn_70_k {ls : List Value} {x1 : Value} {k' n' : Nat} (hst : (st.map fun v => v.category).sum ≤ 8) (hM : am_M E d mX10_isLetter k' n' [x1] S iv (am_K3 E (d + 1) mX10_stepOn k n 70 ls st Q)) : am_R E (d + 1) mX10_stepOn (k' + k) (n' + n) 70 ls (x1 :: st) S iv Q := am_cS (M' := mX10_isLetter) (as := [x1]) dX10_stepOn_70 rfl wq_824 wq_825 wq_808 wq_822 hy_X10_isLetter (by decide) hst (by omega) (by omega) hM
theorem sX10_stepOn_73 {ls : List Value} {x : Int32} (kt : x = 0 → am_R E d mX10_stepOn k n 111 ls st S iv Q) (kf : ¬ x = 0 → am_R E d mX10_stepOn k n 76 ls st S iv Q) : am_R E d mX10_stepOn k n 73 ls (.int x :: st) S iv Q := am_if_eq dX10_stepOn_73 (by decide) kt kf
theorem sX10_stepOn_76 {a0 a1 : Value} (hv : am_rf a0 = true) (h : am_R E d mX10_stepOn k n 77 [a0, a1] (a0 :: st) S iv Q) : am_R E d mX10_stepOn k n 76 [a0, a1] st S iv Q := am_aload_n dX10_stepOn_76 rfl rfl hv h
theorem sX10_stepOn_77 {a0 a1 : Value} (hv : am_rf a0 = true) (h : am_R E d mX10_stepOn k n 78 [a0, a1] (a0 :: st) S iv Q) : am_R E d mX10_stepOn k n 77 [a0, a1] st S iv Q := am_aload_n dX10_stepOn_77 rfl rfl hv h
theorem sX10_stepOn_78 {ls : List Value} {a : Nat} (ha : S.1 a = some (.inl 10)) (h : am_R E d mX10_stepOn k n 81 ls (.int (iv a 19) :: st) S iv Q) : am_R E d mX10_stepOn k n 78 ls (.ref a :: st) S iv Q := am_getI (ci := 10) dX10_stepOn_78 rfl rfl (by decide) wq_814 uq_10 rfl ha h
theorem sX10_stepOn_81 {ls : List Value} {x1 : Value} {a : Nat} (ha : S.1 a = some (.inl 10)) (hst : (st.map fun v => v.category).sum ≤ 8) (hM : am_M E d mX10_byteAt 0 0 [.ref a, x1] S iv (am_K3 E (d + 1) mX10_stepOn k n 81 ls st Q)) : am_R E (d + 1) mX10_stepOn k n 81 ls (x1 :: .ref a :: st) S iv Q := am_cV (ci := 10) (M' := mX10_byteAt) (as := [x1]) dX10_stepOn_81 rfl rfl rfl wq_817 wq_818 wq_819 wq_808 wq_815 hy_X10_byteAt (by decide) ha hst (by omega) (by omega) hM
theorem sX10_stepOn_81_k {ls : List Value} {x1 : Value} {k' n' : Nat} {a : Nat} (ha : S.1 a = some (.inl 10)) (hst : (st.map fun v => v.category).sum ≤ 8) (hM : am_M E d mX10_byteAt k' n' [.ref a, x1] S iv (am_K3 E (d + 1) mX10_stepOn k n 81 ls st Q)) : am_R E (d + 1) mX10_stepOn (k' + k) (n' + n) 81 ls (x1 :: .ref a :: st) S iv Q := am_cV (ci := 10) (M' := mX10_byteAt) (as := [x1]) dX10_stepOn_81 rfl rfl rfl wq_817 wq_818 wq_819 wq_808 wq_815 hy_X10_byteAt (by decide) ha hst (by omega) (by omega) hM
theorem sX10_stepOn_84 {ls : List Value} {x1 : Value} (hst : (st.map fun v => v.category).sum ≤ 8) (hM : am_M E d mX10_isLetter 0 0 [x1] S iv (am_K3 E (d + 1) mX10_stepOn k n 84 ls st Q)) : am_R E (d + 1) mX10_stepOn k n 84 ls (x1 :: st) S iv Q := am_cS (M' := mX10_isLetter) (as := [x1]) dX10_stepOn_84 rfl wq_824 wq_825 wq_808 wq_822 hy_X10_isLetter (by decide) hst (by omega) (by omega) hM
theorem sX10_stepOn_84_k {ls : List Value} {x1 : Value} {k' n' : Nat} (hst : (st.map fun v => v.category).sum ≤ 8) (hM : am_M E d mX10_isLetter k' n' [x1] S iv (am_K3 E (d + 1) mX10_stepOn k n 84 ls st Q)) : am_R E (d + 1) mX10_stepOn (k' + k) (n' + n) 84 ls (x1 :: st) S iv Q := am_cS (M' := mX10_isLetter) (as := [x1]) dX10_stepOn_84 rfl wq_824 wq_825 wq_808 wq_822 hy_X10_isLetter (by decide) hst (by omega) (by omega) hM
theorem sX10_stepOn_87 {ls : List Value} {x : Int32} (kt : x = 0 → am_R E d mX10_stepOn k n 103 ls st S iv Q) (kf : ¬ x = 0 → am_R E d mX10_stepOn k n 90 ls st S iv Q) : am_R E d mX10_stepOn k n 87 ls (.int x :: st) S iv Q := am_if_eq dX10_stepOn_87 (by decide) kt kf
theorem sX10_stepOn_90 {a0 a1 : Value} (hv : am_rf a0 = true) (h : am_R E d mX10_stepOn k n 91 [a0, a1] (a0 :: st) S iv Q) : am_R E d mX10_stepOn k n 90 [a0, a1] st S iv Q := am_aload_n dX10_stepOn_90 rfl rfl hv h
theorem sX10_stepOn_91 {ls : List Value} {x : Value} (hv : x.category = 1) (h : am_R E d mX10_stepOn k n 92 ls (x :: x :: st) S iv Q) : am_R E d mX10_stepOn k n 91 ls (x :: st) S iv Q := am_dup dX10_stepOn_91 hv h
theorem sX10_stepOn_92 {ls : List Value} {a : Nat} (ha : S.1 a = some (.inl 10)) (h : am_R E d mX10_stepOn k n 95 ls (.int (iv a 19) :: st) S iv Q) : am_R E d mX10_stepOn k n 92 ls (.ref a :: st) S iv Q := am_getI (ci := 10) dX10_stepOn_92 rfl rfl (by decide) wq_814 uq_10 rfl ha h
theorem sX10_stepOn_95 {a0 a1 : Value} (h : am_R E d mX10_stepOn k n 96 [a0, a1] (.int 1 :: st) S iv Q) : am_R E d mX10_stepOn k n 95 [a0, a1] st S iv Q := am_iconst dX10_stepOn_95 (by decide) h
theorem sX10_stepOn_96 {ls : List Value} {x y : Int32} (h : am_R E d mX10_stepOn k n 97 ls (.int (x + y) :: st) S iv Q) : am_R E d mX10_stepOn k n 96 ls (.int y :: .int x :: st) S iv Q := am_iadd dX10_stepOn_96 h
theorem sX10_stepOn_97 {ls : List Value} {a : Nat} {x : Int32} (ha : S.1 a = some (.inl 10)) (h : am_R E d mX10_stepOn k n 100 ls st S (am_w iv a 19 x) Q) : am_R E d mX10_stepOn k n 97 ls (.int x :: .ref a :: st) S iv Q := am_putI (ci := 10) dX10_stepOn_97 rfl rfl (by decide) wq_814 uq_10 tyX10_ok nmX10 (Or.inl rfl) rfl ha h
theorem sX10_stepOn_100 {ls : List Value} (h : am_R E d mX10_stepOn k n 76 ls st S iv Q) : am_R E d mX10_stepOn k n 100 ls st S iv Q := am_goto dX10_stepOn_100 (by decide) h
theorem sX10_stepOn_103 {a0 a1 : Value} (hv : am_rf a0 = true) (h : am_R E d mX10_stepOn k n 104 [a0, a1] (a0 :: st) S iv Q) : am_R E d mX10_stepOn k n 103 [a0, a1] st S iv Q := am_aload_n dX10_stepOn_103 rfl rfl hv h
theorem sX10_stepOn_104 {a0 a1 : Value} (h : am_R E d mX10_stepOn k n 105 [a0, a1] (.int 1 :: st) S iv Q) : am_R E d mX10_stepOn k n 104 [a0, a1] st S iv Q := am_iconst dX10_stepOn_104 (by decide) h
theorem sX10_stepOn_105 {ls : List Value} {a : Nat} {x : Int32} (ha : S.1 a = some (.inl 10)) (h : am_R E d mX10_stepOn k n 108 ls st S (am_w iv a 21 x) Q) : am_R E d mX10_stepOn k n 105 ls (.int x :: .ref a :: st) S iv Q := am_putI (ci := 10) dX10_stepOn_105 rfl rfl (by decide) wq_821 uq_10 tyX10_ok nmX10 (Or.inl rfl) rfl ha h
theorem sX10_stepOn_108 {ls : List Value} (h : am_R E d mX10_stepOn k n 212 ls st S iv Q) : am_R E d mX10_stepOn k n 108 ls st S iv Q := am_goto dX10_stepOn_108 (by decide) h
theorem sX10_stepOn_111 {a0 : Value} {x : Int32} (h : am_R E d mX10_stepOn k n 112 [a0, .int x] (.int x :: st) S iv Q) : am_R E d mX10_stepOn k n 111 [a0, .int x] st S iv Q := am_iload_n dX10_stepOn_111 rfl rfl h
theorem sX10_stepOn_112 {ls : List Value} {x1 : Value} (hst : (st.map fun v => v.category).sum ≤ 8) (hM : am_M E d mX10_isDigit 0 0 [x1] S iv (am_K3 E (d + 1) mX10_stepOn k n 112 ls st Q)) : am_R E (d + 1) mX10_stepOn k n 112 ls (x1 :: st) S iv Q := am_cS (M' := mX10_isDigit) (as := [x1]) dX10_stepOn_112 rfl wq_828 wq_829 wq_808 wq_826 hy_X10_isDigit (by decide) hst (by omega) (by omega) hM
theorem sX10_stepOn_112_k {ls : List Value} {x1 : Value} {k' n' : Nat} (hst : (st.map fun v => v.category).sum ≤ 8) (hM : am_M E d mX10_isDigit k' n' [x1] S iv (am_K3 E (d + 1) mX10_stepOn k n 112 ls st Q)) : am_R E (d + 1) mX10_stepOn (k' + k) (n' + n) 112 ls (x1 :: st) S iv Q := am_cS (M' := mX10_isDigit) (as := [x1]) dX10_stepOn_112 rfl wq_828 wq_829 wq_808 wq_826 hy_X10_isDigit (by decide) hst (by omega) (by omega) hM
theorem sX10_stepOn_115 {ls : List Value} {x : Int32} (kt : x = 0 → am_R E d mX10_stepOn k n 186 ls st S iv Q) (kf : ¬ x = 0 → am_R E d mX10_stepOn k n 118 ls st S iv Q) : am_R E d mX10_stepOn k n 115 ls (.int x :: st) S iv Q := am_if_eq dX10_stepOn_115 (by decide) kt kf
theorem sX10_stepOn_118 {a0 a1 : Value} (hv : am_rf a0 = true) (h : am_R E d mX10_stepOn k n 119 [a0, a1] (a0 :: st) S iv Q) : am_R E d mX10_stepOn k n 118 [a0, a1] st S iv Q := am_aload_n dX10_stepOn_118 rfl rfl hv h
theorem sX10_stepOn_119 {a0 a1 : Value} (h : am_R E d mX10_stepOn k n 120 [a0, a1] (.int 0 :: st) S iv Q) : am_R E d mX10_stepOn k n 119 [a0, a1] st S iv Q := am_iconst dX10_stepOn_119 (by decide) h
theorem sX10_stepOn_120 {ls : List Value} {a : Nat} {x : Int32} (ha : S.1 a = some (.inl 10)) (h : am_R E d mX10_stepOn k n 123 ls st S (am_w iv a 22 x) Q) : am_R E d mX10_stepOn k n 120 ls (.int x :: .ref a :: st) S iv Q := am_putI (ci := 10) dX10_stepOn_120 rfl rfl (by decide) wq_830 uq_10 tyX10_ok nmX10 (Or.inl rfl) rfl ha h
theorem sX10_stepOn_123 {a0 a1 : Value} (hv : am_rf a0 = true) (h : am_R E d mX10_stepOn k n 124 [a0, a1] (a0 :: st) S iv Q) : am_R E d mX10_stepOn k n 123 [a0, a1] st S iv Q := am_aload_n dX10_stepOn_123 rfl rfl hv h
theorem sX10_stepOn_124 {a0 a1 : Value} (hv : am_rf a0 = true) (h : am_R E d mX10_stepOn k n 125 [a0, a1] (a0 :: st) S iv Q) : am_R E d mX10_stepOn k n 124 [a0, a1] st S iv Q := am_aload_n dX10_stepOn_124 rfl rfl hv h
theorem sX10_stepOn_125 {ls : List Value} {a : Nat} (ha : S.1 a = some (.inl 10)) (h : am_R E d mX10_stepOn k n 128 ls (.int (iv a 19) :: st) S iv Q) : am_R E d mX10_stepOn k n 125 ls (.ref a :: st) S iv Q := am_getI (ci := 10) dX10_stepOn_125 rfl rfl (by decide) wq_814 uq_10 rfl ha h
theorem sX10_stepOn_128 {ls : List Value} {x1 : Value} {a : Nat} (ha : S.1 a = some (.inl 10)) (hst : (st.map fun v => v.category).sum ≤ 8) (hM : am_M E d mX10_byteAt 0 0 [.ref a, x1] S iv (am_K3 E (d + 1) mX10_stepOn k n 128 ls st Q)) : am_R E (d + 1) mX10_stepOn k n 128 ls (x1 :: .ref a :: st) S iv Q := am_cV (ci := 10) (M' := mX10_byteAt) (as := [x1]) dX10_stepOn_128 rfl rfl rfl wq_817 wq_818 wq_819 wq_808 wq_815 hy_X10_byteAt (by decide) ha hst (by omega) (by omega) hM
theorem sX10_stepOn_128_k {ls : List Value} {x1 : Value} {k' n' : Nat} {a : Nat} (ha : S.1 a = some (.inl 10)) (hst : (st.map fun v => v.category).sum ≤ 8) (hM : am_M E d mX10_byteAt k' n' [.ref a, x1] S iv (am_K3 E (d + 1) mX10_stepOn k n 128 ls st Q)) : am_R E (d + 1) mX10_stepOn (k' + k) (n' + n) 128 ls (x1 :: .ref a :: st) S iv Q := am_cV (ci := 10) (M' := mX10_byteAt) (as := [x1]) dX10_stepOn_128 rfl rfl rfl wq_817 wq_818 wq_819 wq_808 wq_815 hy_X10_byteAt (by decide) ha hst (by omega) (by omega) hM
theorem sX10_stepOn_131 {ls : List Value} {x1 : Value} (hst : (st.map fun v => v.category).sum ≤ 8) (hM : am_M E d mX10_isDigit 0 0 [x1] S iv (am_K3 E (d + 1) mX10_stepOn k n 131 ls st Q)) : am_R E (d + 1) mX10_stepOn k n 131 ls (x1 :: st) S iv Q := am_cS (M' := mX10_isDigit) (as := [x1]) dX10_stepOn_131 rfl wq_828 wq_829 wq_808 wq_826 hy_X10_isDigit (by decide) hst (by omega) (by omega) hM
theorem sX10_stepOn_131_k {ls : List Value} {x1 : Value} {k' n' : Nat} (hst : (st.map fun v => v.category).sum ≤ 8) (hM : am_M E d mX10_isDigit k' n' [x1] S iv (am_K3 E (d + 1) mX10_stepOn k n 131 ls st Q)) : am_R E (d + 1) mX10_stepOn (k' + k) (n' + n) 131 ls (x1 :: st) S iv Q := am_cS (M' := mX10_isDigit) (as := [x1]) dX10_stepOn_131 rfl wq_828 wq_829 wq_808 wq_826 hy_X10_isDigit (by decide) hst (by omega) (by omega) hM
theorem sX10_stepOn_134 {ls : List Value} {x : Int32} (kt : x = 0 → am_R E d mX10_stepOn k n 178 ls st S iv Q) (kf : ¬ x = 0 → am_R E d mX10_stepOn k n 137 ls st S iv Q) : am_R E d mX10_stepOn k n 134 ls (.int x :: st) S iv Q := am_if_eq dX10_stepOn_134 (by decide) kt kf
theorem sX10_stepOn_137 {a0 a1 : Value} (hv : am_rf a0 = true) (h : am_R E d mX10_stepOn k n 138 [a0, a1] (a0 :: st) S iv Q) : am_R E d mX10_stepOn k n 137 [a0, a1] st S iv Q := am_aload_n dX10_stepOn_137 rfl rfl hv h
theorem sX10_stepOn_138 {a0 a1 : Value} (h : am_R E d mX10_stepOn k n 140 [a0, a1] (.int 100000 :: st) S iv Q) : am_R E d mX10_stepOn k n 138 [a0, a1] st S iv Q := am_ldc dX10_stepOn_138 wq_831 h
theorem sX10_stepOn_140 {a0 a1 : Value} (h : am_R E d mX10_stepOn k n 142 [a0, a1] (.int 10 :: st) S iv Q) : am_R E d mX10_stepOn k n 140 [a0, a1] st S iv Q := am_bipush dX10_stepOn_140 (by decide) h
theorem sX10_stepOn_142 {a0 a1 : Value} (hv : am_rf a0 = true) (h : am_R E d mX10_stepOn k n 143 [a0, a1] (a0 :: st) S iv Q) : am_R E d mX10_stepOn k n 142 [a0, a1] st S iv Q := am_aload_n dX10_stepOn_142 rfl rfl hv h
theorem sX10_stepOn_143 {ls : List Value} {a : Nat} (ha : S.1 a = some (.inl 10)) (h : am_R E d mX10_stepOn k n 146 ls (.int (iv a 22) :: st) S iv Q) : am_R E d mX10_stepOn k n 143 ls (.ref a :: st) S iv Q := am_getI (ci := 10) dX10_stepOn_143 rfl rfl (by decide) wq_830 uq_10 rfl ha h
theorem sX10_stepOn_146 {ls : List Value} {x y : Int32} (h : am_R E d mX10_stepOn k n 147 ls (.int (x * y) :: st) S iv Q) : am_R E d mX10_stepOn k n 146 ls (.int y :: .int x :: st) S iv Q := am_imul dX10_stepOn_146 h
theorem sX10_stepOn_147 {a0 a1 : Value} (hv : am_rf a0 = true) (h : am_R E d mX10_stepOn k n 148 [a0, a1] (a0 :: st) S iv Q) : am_R E d mX10_stepOn k n 147 [a0, a1] st S iv Q := am_aload_n dX10_stepOn_147 rfl rfl hv h
theorem sX10_stepOn_148 {a0 a1 : Value} (hv : am_rf a0 = true) (h : am_R E d mX10_stepOn k n 149 [a0, a1] (a0 :: st) S iv Q) : am_R E d mX10_stepOn k n 148 [a0, a1] st S iv Q := am_aload_n dX10_stepOn_148 rfl rfl hv h
theorem sX10_stepOn_149 {ls : List Value} {a : Nat} (ha : S.1 a = some (.inl 10)) (h : am_R E d mX10_stepOn k n 152 ls (.int (iv a 19) :: st) S iv Q) : am_R E d mX10_stepOn k n 149 ls (.ref a :: st) S iv Q := am_getI (ci := 10) dX10_stepOn_149 rfl rfl (by decide) wq_814 uq_10 rfl ha h
theorem sX10_stepOn_152 {ls : List Value} {x1 : Value} {a : Nat} (ha : S.1 a = some (.inl 10)) (hst : (st.map fun v => v.category).sum ≤ 8) (hM : am_M E d mX10_byteAt 0 0 [.ref a, x1] S iv (am_K3 E (d + 1) mX10_stepOn k n 152 ls st Q)) : am_R E (d + 1) mX10_stepOn k n 152 ls (x1 :: .ref a :: st) S iv Q := am_cV (ci := 10) (M' := mX10_byteAt) (as := [x1]) dX10_stepOn_152 rfl rfl rfl wq_817 wq_818 wq_819 wq_808 wq_815 hy_X10_byteAt (by decide) ha hst (by omega) (by omega) hM
theorem sX10_stepOn_152_k {ls : List Value} {x1 : Value} {k' n' : Nat} {a : Nat} (ha : S.1 a = some (.inl 10)) (hst : (st.map fun v => v.category).sum ≤ 8) (hM : am_M E d mX10_byteAt k' n' [.ref a, x1] S iv (am_K3 E (d + 1) mX10_stepOn k n 152 ls st Q)) : am_R E (d + 1) mX10_stepOn (k' + k) (n' + n) 152 ls (x1 :: .ref a :: st) S iv Q := am_cV (ci := 10) (M' := mX10_byteAt) (as := [x1]) dX10_stepOn_152 rfl rfl rfl wq_817 wq_818 wq_819 wq_808 wq_815 hy_X10_byteAt (by decide) ha hst (by omega) (by omega) hM
theorem sX10_stepOn_155 {ls : List Value} {x y : Int32} (h : am_R E d mX10_stepOn k n 156 ls (.int (x + y) :: st) S iv Q) : am_R E d mX10_stepOn k n 155 ls (.int y :: .int x :: st) S iv Q := am_iadd dX10_stepOn_155 h
theorem sX10_stepOn_156 {a0 a1 : Value} (h : am_R E d mX10_stepOn k n 158 [a0, a1] (.int 48 :: st) S iv Q) : am_R E d mX10_stepOn k n 156 [a0, a1] st S iv Q := am_bipush dX10_stepOn_156 (by decide) h
theorem sX10_stepOn_158 {ls : List Value} {x y : Int32} (h : am_R E d mX10_stepOn k n 159 ls (.int (x - y) :: st) S iv Q) : am_R E d mX10_stepOn k n 158 ls (.int y :: .int x :: st) S iv Q := am_isub dX10_stepOn_158 h
theorem sX10_stepOn_159 {ls : List Value} {x1 x2 : Value} (hst : (st.map fun v => v.category).sum ≤ 8) (hM : am_M E d mJ9_min_7cf53 0 0 [x1, x2] S iv (am_K3 E (d + 1) mX10_stepOn k n 159 ls st Q)) : am_R E (d + 1) mX10_stepOn k n 159 ls (x2 :: x1 :: st) S iv Q := am_cS (M' := mJ9_min_7cf53) (as := [x1, x2]) dX10_stepOn_159 rfl wq_832 wq_57 wq_50 wq_54 hy_J9_min_7cf53 (by decide) hst (by omega) (by omega) hM
theorem sX10_stepOn_159_k {ls : List Value} {x1 x2 : Value} {k' n' : Nat} (hst : (st.map fun v => v.category).sum ≤ 8) (hM : am_M E d mJ9_min_7cf53 k' n' [x1, x2] S iv (am_K3 E (d + 1) mX10_stepOn k n 159 ls st Q)) : am_R E (d + 1) mX10_stepOn (k' + k) (n' + n) 159 ls (x2 :: x1 :: st) S iv Q := am_cS (M' := mJ9_min_7cf53) (as := [x1, x2]) dX10_stepOn_159 rfl wq_832 wq_57 wq_50 wq_54 hy_J9_min_7cf53 (by decide) hst (by omega) (by omega) hM
theorem sX10_stepOn_162 {ls : List Value} {a : Nat} {x : Int32} (ha : S.1 a = some (.inl 10)) (h : am_R E d mX10_stepOn k n 165 ls st S (am_w iv a 22 x) Q) : am_R E d mX10_stepOn k n 162 ls (.int x :: .ref a :: st) S iv Q := am_putI (ci := 10) dX10_stepOn_162 rfl rfl (by decide) wq_830 uq_10 tyX10_ok nmX10 (Or.inl rfl) rfl ha h
theorem sX10_stepOn_165 {a0 a1 : Value} (hv : am_rf a0 = true) (h : am_R E d mX10_stepOn k n 166 [a0, a1] (a0 :: st) S iv Q) : am_R E d mX10_stepOn k n 165 [a0, a1] st S iv Q := am_aload_n dX10_stepOn_165 rfl rfl hv h
theorem sX10_stepOn_166 {ls : List Value} {x : Value} (hv : x.category = 1) (h : am_R E d mX10_stepOn k n 167 ls (x :: x :: st) S iv Q) : am_R E d mX10_stepOn k n 166 ls (x :: st) S iv Q := am_dup dX10_stepOn_166 hv h
theorem sX10_stepOn_167 {ls : List Value} {a : Nat} (ha : S.1 a = some (.inl 10)) (h : am_R E d mX10_stepOn k n 170 ls (.int (iv a 19) :: st) S iv Q) : am_R E d mX10_stepOn k n 167 ls (.ref a :: st) S iv Q := am_getI (ci := 10) dX10_stepOn_167 rfl rfl (by decide) wq_814 uq_10 rfl ha h
theorem sX10_stepOn_170 {a0 a1 : Value} (h : am_R E d mX10_stepOn k n 171 [a0, a1] (.int 1 :: st) S iv Q) : am_R E d mX10_stepOn k n 170 [a0, a1] st S iv Q := am_iconst dX10_stepOn_170 (by decide) h
theorem sX10_stepOn_171 {ls : List Value} {x y : Int32} (h : am_R E d mX10_stepOn k n 172 ls (.int (x + y) :: st) S iv Q) : am_R E d mX10_stepOn k n 171 ls (.int y :: .int x :: st) S iv Q := am_iadd dX10_stepOn_171 h
theorem sX10_stepOn_172 {ls : List Value} {a : Nat} {x : Int32} (ha : S.1 a = some (.inl 10)) (h : am_R E d mX10_stepOn k n 175 ls st S (am_w iv a 19 x) Q) : am_R E d mX10_stepOn k n 172 ls (.int x :: .ref a :: st) S iv Q := am_putI (ci := 10) dX10_stepOn_172 rfl rfl (by decide) wq_814 uq_10 tyX10_ok nmX10 (Or.inl rfl) rfl ha h
theorem sX10_stepOn_175 {ls : List Value} (h : am_R E d mX10_stepOn k n 123 ls st S iv Q) : am_R E d mX10_stepOn k n 175 ls st S iv Q := am_goto dX10_stepOn_175 (by decide) h
theorem sX10_stepOn_178 {a0 a1 : Value} (hv : am_rf a0 = true) (h : am_R E d mX10_stepOn k n 179 [a0, a1] (a0 :: st) S iv Q) : am_R E d mX10_stepOn k n 178 [a0, a1] st S iv Q := am_aload_n dX10_stepOn_178 rfl rfl hv h
theorem sX10_stepOn_179 {a0 a1 : Value} (h : am_R E d mX10_stepOn k n 180 [a0, a1] (.int 2 :: st) S iv Q) : am_R E d mX10_stepOn k n 179 [a0, a1] st S iv Q := am_iconst dX10_stepOn_179 (by decide) h
theorem sX10_stepOn_180 {ls : List Value} {a : Nat} {x : Int32} (ha : S.1 a = some (.inl 10)) (h : am_R E d mX10_stepOn k n 183 ls st S (am_w iv a 21 x) Q) : am_R E d mX10_stepOn k n 180 ls (.int x :: .ref a :: st) S iv Q := am_putI (ci := 10) dX10_stepOn_180 rfl rfl (by decide) wq_821 uq_10 tyX10_ok nmX10 (Or.inl rfl) rfl ha h
theorem sX10_stepOn_183 {ls : List Value} (h : am_R E d mX10_stepOn k n 212 ls st S iv Q) : am_R E d mX10_stepOn k n 183 ls st S iv Q := am_goto dX10_stepOn_183 (by decide) h
theorem sX10_stepOn_186 {a0 a1 : Value} (hv : am_rf a0 = true) (h : am_R E d mX10_stepOn k n 187 [a0, a1] (a0 :: st) S iv Q) : am_R E d mX10_stepOn k n 186 [a0, a1] st S iv Q := am_aload_n dX10_stepOn_186 rfl rfl hv h
theorem sX10_stepOn_187 {ls : List Value} {x : Value} (hv : x.category = 1) (h : am_R E d mX10_stepOn k n 188 ls (x :: x :: st) S iv Q) : am_R E d mX10_stepOn k n 187 ls (x :: st) S iv Q := am_dup dX10_stepOn_187 hv h
theorem sX10_stepOn_188 {ls : List Value} {a : Nat} (ha : S.1 a = some (.inl 10)) (h : am_R E d mX10_stepOn k n 191 ls (.int (iv a 19) :: st) S iv Q) : am_R E d mX10_stepOn k n 188 ls (.ref a :: st) S iv Q := am_getI (ci := 10) dX10_stepOn_188 rfl rfl (by decide) wq_814 uq_10 rfl ha h
theorem sX10_stepOn_191 {a0 a1 : Value} (h : am_R E d mX10_stepOn k n 192 [a0, a1] (.int 1 :: st) S iv Q) : am_R E d mX10_stepOn k n 191 [a0, a1] st S iv Q := am_iconst dX10_stepOn_191 (by decide) h
theorem sX10_stepOn_192 {ls : List Value} {x y : Int32} (h : am_R E d mX10_stepOn k n 193 ls (.int (x + y) :: st) S iv Q) : am_R E d mX10_stepOn k n 192 ls (.int y :: .int x :: st) S iv Q := am_iadd dX10_stepOn_192 h
theorem sX10_stepOn_193 {ls : List Value} {a : Nat} {x : Int32} (ha : S.1 a = some (.inl 10)) (h : am_R E d mX10_stepOn k n 196 ls st S (am_w iv a 19 x) Q) : am_R E d mX10_stepOn k n 193 ls (.int x :: .ref a :: st) S iv Q := am_putI (ci := 10) dX10_stepOn_193 rfl rfl (by decide) wq_814 uq_10 tyX10_ok nmX10 (Or.inl rfl) rfl ha h
theorem sX10_stepOn_196 {a0 a1 : Value} (hv : am_rf a0 = true) (h : am_R E d mX10_stepOn k n 197 [a0, a1] (a0 :: st) S iv Q) : am_R E d mX10_stepOn k n 196 [a0, a1] st S iv Q := am_aload_n dX10_stepOn_196 rfl rfl hv h
theorem sX10_stepOn_197 {a0 : Value} {x : Int32} (h : am_R E d mX10_stepOn k n 198 [a0, .int x] (.int x :: st) S iv Q) : am_R E d mX10_stepOn k n 197 [a0, .int x] st S iv Q := am_iload_n dX10_stepOn_197 rfl rfl h
theorem sX10_stepOn_198 {ls : List Value} {x1 : Value} (hst : (st.map fun v => v.category).sum ≤ 8) (hM : am_M E d mX10_isMark 0 0 [x1] S iv (am_K3 E (d + 1) mX10_stepOn k n 198 ls st Q)) : am_R E (d + 1) mX10_stepOn k n 198 ls (x1 :: st) S iv Q := am_cS (M' := mX10_isMark) (as := [x1]) dX10_stepOn_198 rfl wq_835 wq_836 wq_808 wq_833 hy_X10_isMark (by decide) hst (by omega) (by omega) hM
theorem sX10_stepOn_198_k {ls : List Value} {x1 : Value} {k' n' : Nat} (hst : (st.map fun v => v.category).sum ≤ 8) (hM : am_M E d mX10_isMark k' n' [x1] S iv (am_K3 E (d + 1) mX10_stepOn k n 198 ls st Q)) : am_R E (d + 1) mX10_stepOn (k' + k) (n' + n) 198 ls (x1 :: st) S iv Q := am_cS (M' := mX10_isMark) (as := [x1]) dX10_stepOn_198 rfl wq_835 wq_836 wq_808 wq_833 hy_X10_isMark (by decide) hst (by omega) (by omega) hM
theorem sX10_stepOn_201 {ls : List Value} {x : Int32} (kt : x = 0 → am_R E d mX10_stepOn k n 208 ls st S iv Q) (kf : ¬ x = 0 → am_R E d mX10_stepOn k n 204 ls st S iv Q) : am_R E d mX10_stepOn k n 201 ls (.int x :: st) S iv Q := am_if_eq dX10_stepOn_201 (by decide) kt kf
theorem sX10_stepOn_204 {a0 a1 : Value} (h : am_R E d mX10_stepOn k n 205 [a0, a1] (.int 3 :: st) S iv Q) : am_R E d mX10_stepOn k n 204 [a0, a1] st S iv Q := am_iconst dX10_stepOn_204 (by decide) h
theorem sX10_stepOn_205 {ls : List Value} (h : am_R E d mX10_stepOn k n 209 ls st S iv Q) : am_R E d mX10_stepOn k n 205 ls st S iv Q := am_goto dX10_stepOn_205 (by decide) h
theorem sX10_stepOn_208 {a0 a1 : Value} (h : am_R E d mX10_stepOn k n 209 [a0, a1] (.int 4 :: st) S iv Q) : am_R E d mX10_stepOn k n 208 [a0, a1] st S iv Q := am_iconst dX10_stepOn_208 (by decide) h
theorem sX10_stepOn_209 {ls : List Value} {a : Nat} {x : Int32} (ha : S.1 a = some (.inl 10)) (h : am_R E d mX10_stepOn k n 212 ls st S (am_w iv a 21 x) Q) : am_R E d mX10_stepOn k n 209 ls (.int x :: .ref a :: st) S iv Q := am_putI (ci := 10) dX10_stepOn_209 rfl rfl (by decide) wq_821 uq_10 tyX10_ok nmX10 (Or.inl rfl) rfl ha h
theorem sX10_stepOn_212 {a0 a1 : Value} (hv : am_rf a0 = true) (h : am_R E d mX10_stepOn k n 213 [a0, a1] (a0 :: st) S iv Q) : am_R E d mX10_stepOn k n 212 [a0, a1] st S iv Q := am_aload_n dX10_stepOn_212 rfl rfl hv h
theorem sX10_stepOn_213 {a0 a1 : Value} (hv : am_rf a0 = true) (h : am_R E d mX10_stepOn k n 214 [a0, a1] (a0 :: st) S iv Q) : am_R E d mX10_stepOn k n 213 [a0, a1] st S iv Q := am_aload_n dX10_stepOn_213 rfl rfl hv h
theorem sX10_stepOn_214 {ls : List Value} {a : Nat} (ha : S.1 a = some (.inl 10)) (h : am_R E d mX10_stepOn k n 217 ls (.int (iv a 19) :: st) S iv Q) : am_R E d mX10_stepOn k n 214 ls (.ref a :: st) S iv Q := am_getI (ci := 10) dX10_stepOn_214 rfl rfl (by decide) wq_814 uq_10 rfl ha h
theorem sX10_stepOn_217 {ls : List Value} {a : Nat} {x : Int32} (ha : S.1 a = some (.inl 10)) (h : am_R E d mX10_stepOn k n 220 ls st S (am_w iv a 24 x) Q) : am_R E d mX10_stepOn k n 217 ls (.int x :: .ref a :: st) S iv Q := am_putI (ci := 10) dX10_stepOn_217 rfl rfl (by decide) wq_837 uq_10 tyX10_ok nmX10 (Or.inl rfl) rfl ha h
theorem sX10_stepOn_220 {ls : List Value} (h : Q (.inl none) S iv) : am_R E d mX10_stepOn k n 220 ls [] S iv Q := am_return dX10_stepOn_220 rfl h
theorem dX10_wrong_0 : decode cX10_wrong 0 = .ok (.aload_n 0, 1) := by decide +kernel
theorem dX10_wrong_1 : decode cX10_wrong 1 = .ok (.getfield 192, 3) := by decide +kernel
theorem dX10_wrong_4 : decode cX10_wrong 4 = .ok (.ifCond .eq 4, 3) := by decide +kernel
theorem dX10_wrong_7 : decode cX10_wrong 7 = .ok (.return_, 1) := by decide +kernel
theorem dX10_wrong_8 : decode cX10_wrong 8 = .ok (.aload_n 0, 1) := by decide +kernel
theorem dX10_wrong_9 : decode cX10_wrong 9 = .ok (.iload_n 1, 1) := by decide +kernel
theorem dX10_wrong_10 : decode cX10_wrong 10 = .ok (.putfield 192, 3) := by decide +kernel
theorem dX10_wrong_13 : decode cX10_wrong 13 = .ok (.aload_n 0, 1) := by decide +kernel
theorem dX10_wrong_14 : decode cX10_wrong 14 = .ok (.aload_n 0, 1) := by decide +kernel
theorem dX10_wrong_15 : decode cX10_wrong 15 = .ok (.getfield 163, 3) := by decide +kernel
theorem dX10_wrong_18 : decode cX10_wrong 18 = .ok (.putfield 195, 3) := by decide +kernel
theorem dX10_wrong_21 : decode cX10_wrong 21 = .ok (.return_, 1) := by decide +kernel
theorem sX10_wrong_0 {a0 a1 : Value} (hv : am_rf a0 = true) (h : am_R E d mX10_wrong k n 1 [a0, a1] (a0 :: st) S iv Q) : am_R E d mX10_wrong k n 0 [a0, a1] st S iv Q := am_aload_n dX10_wrong_0 rfl rfl hv h
theorem sX10_wrong_1 {ls : List Value} {a : Nat} (ha : S.1 a = some (.inl 10)) (h : am_R E d mX10_wrong k n 4 ls (.int (iv a 25) :: st) S iv Q) : am_R E d mX10_wrong k n 1 ls (.ref a :: st) S iv Q := am_getI (ci := 10) dX10_wrong_1 rfl rfl (by decide) wq_838 uq_10 rfl ha h
theorem sX10_wrong_4 {ls : List Value} {x : Int32} (kt : x = 0 → am_R E d mX10_wrong k n 8 ls st S iv Q) (kf : ¬ x = 0 → am_R E d mX10_wrong k n 7 ls st S iv Q) : am_R E d mX10_wrong k n 4 ls (.int x :: st) S iv Q := am_if_eq dX10_wrong_4 (by decide) kt kf
theorem sX10_wrong_7 {ls : List Value} (h : Q (.inl none) S iv) : am_R E d mX10_wrong k n 7 ls [] S iv Q := am_return dX10_wrong_7 rfl h
theorem sX10_wrong_8 {a0 a1 : Value} (hv : am_rf a0 = true) (h : am_R E d mX10_wrong k n 9 [a0, a1] (a0 :: st) S iv Q) : am_R E d mX10_wrong k n 8 [a0, a1] st S iv Q := am_aload_n dX10_wrong_8 rfl rfl hv h
theorem sX10_wrong_9 {a0 : Value} {x : Int32} (h : am_R E d mX10_wrong k n 10 [a0, .int x] (.int x :: st) S iv Q) : am_R E d mX10_wrong k n 9 [a0, .int x] st S iv Q := am_iload_n dX10_wrong_9 rfl rfl h
theorem sX10_wrong_10 {ls : List Value} {a : Nat} {x : Int32} (ha : S.1 a = some (.inl 10)) (h : am_R E d mX10_wrong k n 13 ls st S (am_w iv a 25 x) Q) : am_R E d mX10_wrong k n 10 ls (.int x :: .ref a :: st) S iv Q := am_putI (ci := 10) dX10_wrong_10 rfl rfl (by decide) wq_838 uq_10 tyX10_ok nmX10 (Or.inl rfl) rfl ha h
theorem sX10_wrong_13 {a0 a1 : Value} (hv : am_rf a0 = true) (h : am_R E d mX10_wrong k n 14 [a0, a1] (a0 :: st) S iv Q) : am_R E d mX10_wrong k n 13 [a0, a1] st S iv Q := am_aload_n dX10_wrong_13 rfl rfl hv h
theorem sX10_wrong_14 {a0 a1 : Value} (hv : am_rf a0 = true) (h : am_R E d mX10_wrong k n 15 [a0, a1] (a0 :: st) S iv Q) : am_R E d mX10_wrong k n 14 [a0, a1] st S iv Q := am_aload_n dX10_wrong_14 rfl rfl hv h
theorem sX10_wrong_15 {ls : List Value} {a : Nat} (ha : S.1 a = some (.inl 10)) (h : am_R E d mX10_wrong k n 18 ls (.int (iv a 23) :: st) S iv Q) : am_R E d mX10_wrong k n 15 ls (.ref a :: st) S iv Q := am_getI (ci := 10) dX10_wrong_15 rfl rfl (by decide) wq_820 uq_10 rfl ha h
theorem sX10_wrong_18 {ls : List Value} {a : Nat} {x : Int32} (ha : S.1 a = some (.inl 10)) (h : am_R E d mX10_wrong k n 21 ls st S (am_w iv a 26 x) Q) : am_R E d mX10_wrong k n 18 ls (.int x :: .ref a :: st) S iv Q := am_putI (ci := 10) dX10_wrong_18 rfl rfl (by decide) wq_839 uq_10 tyX10_ok nmX10 (Or.inl rfl) rfl ha h
theorem sX10_wrong_21 {ls : List Value} (h : Q (.inl none) S iv) : am_R E d mX10_wrong k n 21 ls [] S iv Q := am_return dX10_wrong_21 rfl h
theorem dX10_is_0 : decode cX10_is 0 = .ok (.aload_n 0, 1) := by decide +kernel
theorem dX10_is_1 : decode cX10_is 1 = .ok (.getfield 192, 3) := by decide +kernel
theorem dX10_is_4 : decode cX10_is 4 = .ok (.ifCond .ne 31, 3) := by decide +kernel
theorem dX10_is_7 : decode cX10_is 7 = .ok (.aload_n 0, 1) := by decide +kernel
theorem dX10_is_8 : decode cX10_is 8 = .ok (.getfield 166, 3) := by decide +kernel
theorem dX10_is_11 : decode cX10_is 11 = .ok (.iconst 1, 1) := by decide +kernel
theorem dX10_is_12 : decode cX10_is 12 = .ok (.if_icmp .ne 23, 3) := by decide +kernel
theorem dX10_is_15 : decode cX10_is 15 = .ok (.aload_n 1, 1) := by decide +kernel
theorem dX10_is_16 : decode cX10_is 16 = .ok (.invokevirtual 198, 3) := by decide +kernel
theorem dX10_is_19 : decode cX10_is 19 = .ok (.aload_n 0, 1) := by decide +kernel
theorem dX10_is_20 : decode cX10_is 20 = .ok (.getfield 189, 3) := by decide +kernel
theorem dX10_is_23 : decode cX10_is 23 = .ok (.aload_n 0, 1) := by decide +kernel
theorem dX10_is_24 : decode cX10_is 24 = .ok (.getfield 163, 3) := by decide +kernel
theorem dX10_is_27 : decode cX10_is 27 = .ok (.isub, 1) := by decide +kernel
theorem dX10_is_28 : decode cX10_is 28 = .ok (.if_icmp .ne 7, 3) := by decide +kernel
theorem dX10_is_31 : decode cX10_is 31 = .ok (.iconst 1, 1) := by decide +kernel
theorem dX10_is_32 : decode cX10_is 32 = .ok (.goto 4, 3) := by decide +kernel
theorem dX10_is_35 : decode cX10_is 35 = .ok (.iconst 0, 1) := by decide +kernel
theorem dX10_is_36 : decode cX10_is 36 = .ok (.istore_n 2, 1) := by decide +kernel
theorem dX10_is_37 : decode cX10_is 37 = .ok (.iconst 0, 1) := by decide +kernel
theorem dX10_is_38 : decode cX10_is 38 = .ok (.istore_n 3, 1) := by decide +kernel
theorem dX10_is_39 : decode cX10_is 39 = .ok (.iload_n 2, 1) := by decide +kernel
theorem dX10_is_40 : decode cX10_is 40 = .ok (.ifCond .eq 42, 3) := by decide +kernel
theorem dX10_is_43 : decode cX10_is 43 = .ok (.iload_n 3, 1) := by decide +kernel
theorem dX10_is_44 : decode cX10_is 44 = .ok (.aload_n 1, 1) := by decide +kernel
theorem dX10_is_45 : decode cX10_is 45 = .ok (.invokevirtual 198, 3) := by decide +kernel
theorem dX10_is_48 : decode cX10_is 48 = .ok (.if_icmp .ge 34, 3) := by decide +kernel
theorem dX10_is_51 : decode cX10_is 51 = .ok (.aload_n 1, 1) := by decide +kernel
theorem dX10_is_52 : decode cX10_is 52 = .ok (.iload_n 3, 1) := by decide +kernel
theorem dX10_is_53 : decode cX10_is 53 = .ok (.invokevirtual 201, 3) := by decide +kernel
theorem dX10_is_56 : decode cX10_is 56 = .ok (.aload_n 0, 1) := by decide +kernel
theorem dX10_is_57 : decode cX10_is 57 = .ok (.getfield 83, 3) := by decide +kernel
theorem dX10_is_60 : decode cX10_is 60 = .ok (.aload_n 0, 1) := by decide +kernel
theorem dX10_is_61 : decode cX10_is 61 = .ok (.getfield 163, 3) := by decide +kernel
theorem dX10_is_64 : decode cX10_is 64 = .ok (.iload_n 3, 1) := by decide +kernel
theorem dX10_is_65 : decode cX10_is 65 = .ok (.iadd, 1) := by decide +kernel
theorem dX10_is_66 : decode cX10_is 66 = .ok (.iaload, 1) := by decide +kernel
theorem dX10_is_67 : decode cX10_is 67 = .ok (.if_icmp .ne 7, 3) := by decide +kernel
theorem dX10_is_70 : decode cX10_is 70 = .ok (.iconst 1, 1) := by decide +kernel
theorem dX10_is_71 : decode cX10_is 71 = .ok (.goto 4, 3) := by decide +kernel
theorem dX10_is_74 : decode cX10_is 74 = .ok (.iconst 0, 1) := by decide +kernel
theorem dX10_is_75 : decode cX10_is 75 = .ok (.istore_n 2, 1) := by decide +kernel
theorem dX10_is_76 : decode cX10_is 76 = .ok (.iinc 3 1, 3) := by decide +kernel
theorem dX10_is_79 : decode cX10_is 79 = .ok (.goto (-40), 3) := by decide +kernel
theorem dX10_is_82 : decode cX10_is 82 = .ok (.iload_n 2, 1) := by decide +kernel
theorem dX10_is_83 : decode cX10_is 83 = .ok (.ireturn, 1) := by decide +kernel
theorem sX10_is_0 {a0 a1 a2 a3 : Value} (hv : am_rf a0 = true) (h : am_R E d mX10_is k n 1 [a0, a1, a2, a3] (a0 :: st) S iv Q) : am_R E d mX10_is k n 0 [a0, a1, a2, a3] st S iv Q := am_aload_n dX10_is_0 rfl rfl hv h
theorem sX10_is_1 {ls : List Value} {a : Nat} (ha : S.1 a = some (.inl 10)) (h : am_R E d mX10_is k n 4 ls (.int (iv a 25) :: st) S iv Q) : am_R E d mX10_is k n 1 ls (.ref a :: st) S iv Q := am_getI (ci := 10) dX10_is_1 rfl rfl (by decide) wq_838 uq_10 rfl ha h
theorem sX10_is_4 {ls : List Value} {x : Int32} (kt : ¬ x = 0 → am_R E d mX10_is k n 35 ls st S iv Q) (kf : x = 0 → am_R E d mX10_is k n 7 ls st S iv Q) : am_R E d mX10_is k n 4 ls (.int x :: st) S iv Q := am_if_ne dX10_is_4 (by decide) kt kf
theorem sX10_is_7 {a0 a1 a2 a3 : Value} (hv : am_rf a0 = true) (h : am_R E d mX10_is k n 8 [a0, a1, a2, a3] (a0 :: st) S iv Q) : am_R E d mX10_is k n 7 [a0, a1, a2, a3] st S iv Q := am_aload_n dX10_is_7 rfl rfl hv h
theorem sX10_is_8 {ls : List Value} {a : Nat} (ha : S.1 a = some (.inl 10)) (h : am_R E d mX10_is k n 11 ls (.int (iv a 21) :: st) S iv Q) : am_R E d mX10_is k n 8 ls (.ref a :: st) S iv Q := am_getI (ci := 10) dX10_is_8 rfl rfl (by decide) wq_821 uq_10 rfl ha h
theorem sX10_is_11 {a0 a1 a2 a3 : Value} (h : am_R E d mX10_is k n 12 [a0, a1, a2, a3] (.int 1 :: st) S iv Q) : am_R E d mX10_is k n 11 [a0, a1, a2, a3] st S iv Q := am_iconst dX10_is_11 (by decide) h
theorem sX10_is_12 {ls : List Value} {x y : Int32} (kt : ¬ x = y → am_R E d mX10_is k n 35 ls st S iv Q) (kf : x = y → am_R E d mX10_is k n 15 ls st S iv Q) : am_R E d mX10_is k n 12 ls (.int y :: .int x :: st) S iv Q := am_icmp_ne dX10_is_12 (by decide) kt kf
theorem sX10_is_15 {a0 a1 a2 a3 : Value} (hv : am_rf a1 = true) (h : am_R E d mX10_is k n 16 [a0, a1, a2, a3] (a1 :: st) S iv Q) : am_R E d mX10_is k n 15 [a0, a1, a2, a3] st S iv Q := am_aload_n dX10_is_15 rfl rfl hv h
theorem sX10_is_16 {ls : List Value} {j : Nat} (hj : j < am_by.length) (hst : (st.map fun v => v.category).sum ≤ 8) (hM : am_M E d mJ0_length_8abf5 0 0 [.retAddr j] S iv (am_K3 E (d + 1) mX10_is k n 16 ls st Q)) : am_R E (d + 1) mX10_is k n 16 ls (.retAddr j :: st) S iv Q := am_cT' (M' := mJ0_length_8abf5) (as := []) dX10_is_16 rfl wq_840 wq_28 wq_29 wq_5 wq_25 hy_J0_length_8abf5 (by decide) hj hst (by omega) (by omega) hM
theorem sX10_is_19 {a0 a1 a2 a3 : Value} (hv : am_rf a0 = true) (h : am_R E d mX10_is k n 20 [a0, a1, a2, a3] (a0 :: st) S iv Q) : am_R E d mX10_is k n 19 [a0, a1, a2, a3] st S iv Q := am_aload_n dX10_is_19 rfl rfl hv h
theorem sX10_is_20 {ls : List Value} {a : Nat} (ha : S.1 a = some (.inl 10)) (h : am_R E d mX10_is k n 23 ls (.int (iv a 24) :: st) S iv Q) : am_R E d mX10_is k n 20 ls (.ref a :: st) S iv Q := am_getI (ci := 10) dX10_is_20 rfl rfl (by decide) wq_837 uq_10 rfl ha h
theorem sX10_is_23 {a0 a1 a2 a3 : Value} (hv : am_rf a0 = true) (h : am_R E d mX10_is k n 24 [a0, a1, a2, a3] (a0 :: st) S iv Q) : am_R E d mX10_is k n 23 [a0, a1, a2, a3] st S iv Q := am_aload_n dX10_is_23 rfl rfl hv h
theorem sX10_is_24 {ls : List Value} {a : Nat} (ha : S.1 a = some (.inl 10)) (h : am_R E d mX10_is k n 27 ls (.int (iv a 23) :: st) S iv Q) : am_R E d mX10_is k n 24 ls (.ref a :: st) S iv Q := am_getI (ci := 10) dX10_is_24 rfl rfl (by decide) wq_820 uq_10 rfl ha h
theorem sX10_is_27 {ls : List Value} {x y : Int32} (h : am_R E d mX10_is k n 28 ls (.int (x - y) :: st) S iv Q) : am_R E d mX10_is k n 27 ls (.int y :: .int x :: st) S iv Q := am_isub dX10_is_27 h
theorem sX10_is_28 {ls : List Value} {x y : Int32} (kt : ¬ x = y → am_R E d mX10_is k n 35 ls st S iv Q) (kf : x = y → am_R E d mX10_is k n 31 ls st S iv Q) : am_R E d mX10_is k n 28 ls (.int y :: .int x :: st) S iv Q := am_icmp_ne dX10_is_28 (by decide) kt kf
theorem sX10_is_31 {a0 a1 a2 a3 : Value} (h : am_R E d mX10_is k n 32 [a0, a1, a2, a3] (.int 1 :: st) S iv Q) : am_R E d mX10_is k n 31 [a0, a1, a2, a3] st S iv Q := am_iconst dX10_is_31 (by decide) h
theorem sX10_is_32 {ls : List Value} (h : am_R E d mX10_is k n 36 ls st S iv Q) : am_R E d mX10_is k n 32 ls st S iv Q := am_goto dX10_is_32 (by decide) h
theorem sX10_is_35 {a0 a1 a2 a3 : Value} (h : am_R E d mX10_is k n 36 [a0, a1, a2, a3] (.int 0 :: st) S iv Q) : am_R E d mX10_is k n 35 [a0, a1, a2, a3] st S iv Q := am_iconst dX10_is_35 (by decide) h
theorem sX10_is_36 {a0 a1 a2 a3 : Value} {x : Int32} (h : am_R E d mX10_is k n 37 [a0, a1, .int x, a3] st S iv Q) : am_R E d mX10_is k n 36 [a0, a1, a2, a3] (.int x :: st) S iv Q := am_istore_n dX10_is_36 rfl (by decide) h
theorem sX10_is_37 {a0 a1 a2 a3 : Value} (h : am_R E d mX10_is k n 38 [a0, a1, a2, a3] (.int 0 :: st) S iv Q) : am_R E d mX10_is k n 37 [a0, a1, a2, a3] st S iv Q := am_iconst dX10_is_37 (by decide) h
theorem sX10_is_38 {a0 a1 a2 a3 : Value} {x : Int32} (h : am_R E d mX10_is k n 39 [a0, a1, a2, .int x] st S iv Q) : am_R E d mX10_is k n 38 [a0, a1, a2, a3] (.int x :: st) S iv Q := am_istore_n dX10_is_38 rfl (by decide) h
theorem sX10_is_39 {a0 a1 a3 : Value} {x : Int32} (h : am_R E d mX10_is k n 40 [a0, a1, .int x, a3] (.int x :: st) S iv Q) : am_R E d mX10_is k n 39 [a0, a1, .int x, a3] st S iv Q := am_iload_n dX10_is_39 rfl rfl h
theorem sX10_is_40 {ls : List Value} {x : Int32} (kt : x = 0 → am_R E d mX10_is k n 82 ls st S iv Q) (kf : ¬ x = 0 → am_R E d mX10_is k n 43 ls st S iv Q) : am_R E d mX10_is k n 40 ls (.int x :: st) S iv Q := am_if_eq dX10_is_40 (by decide) kt kf
theorem sX10_is_43 {a0 a1 a2 : Value} {x : Int32} (h : am_R E d mX10_is k n 44 [a0, a1, a2, .int x] (.int x :: st) S iv Q) : am_R E d mX10_is k n 43 [a0, a1, a2, .int x] st S iv Q := am_iload_n dX10_is_43 rfl rfl h
theorem sX10_is_44 {a0 a1 a2 a3 : Value} (hv : am_rf a1 = true) (h : am_R E d mX10_is k n 45 [a0, a1, a2, a3] (a1 :: st) S iv Q) : am_R E d mX10_is k n 44 [a0, a1, a2, a3] st S iv Q := am_aload_n dX10_is_44 rfl rfl hv h
theorem sX10_is_45 {ls : List Value} {j : Nat} (hj : j < am_by.length) (hst : (st.map fun v => v.category).sum ≤ 8) (hM : am_M E d mJ0_length_8abf5 0 0 [.retAddr j] S iv (am_K3 E (d + 1) mX10_is k n 45 ls st Q)) : am_R E (d + 1) mX10_is k n 45 ls (.retAddr j :: st) S iv Q := am_cT' (M' := mJ0_length_8abf5) (as := []) dX10_is_45 rfl wq_840 wq_28 wq_29 wq_5 wq_25 hy_J0_length_8abf5 (by decide) hj hst (by omega) (by omega) hM
theorem sX10_is_48 {ls : List Value} {x y : Int32} (kt : y ≤ x → am_R E d mX10_is k n 82 ls st S iv Q) (kf : ¬ y ≤ x → am_R E d mX10_is k n 51 ls st S iv Q) : am_R E d mX10_is k n 48 ls (.int y :: .int x :: st) S iv Q := am_icmp_ge dX10_is_48 (by decide) kt kf
theorem sX10_is_51 {a0 a1 a2 a3 : Value} (hv : am_rf a1 = true) (h : am_R E d mX10_is k n 52 [a0, a1, a2, a3] (a1 :: st) S iv Q) : am_R E d mX10_is k n 51 [a0, a1, a2, a3] st S iv Q := am_aload_n dX10_is_51 rfl rfl hv h
theorem sX10_is_52 {a0 a1 a2 : Value} {x : Int32} (h : am_R E d mX10_is k n 53 [a0, a1, a2, .int x] (.int x :: st) S iv Q) : am_R E d mX10_is k n 52 [a0, a1, a2, .int x] st S iv Q := am_iload_n dX10_is_52 rfl rfl h
theorem sX10_is_53 {ls : List Value} {x1 : Value} {j : Nat} (hj : j < am_by.length) (hst : (st.map fun v => v.category).sum ≤ 8) (hM : am_M E d mJ0_charAt_5068e 0 0 [.retAddr j, x1] S iv (am_K3 E (d + 1) mX10_is k n 53 ls st Q)) : am_R E (d + 1) mX10_is k n 53 ls (x1 :: .retAddr j :: st) S iv Q := am_cT' (M' := mJ0_charAt_5068e) (as := [x1]) dX10_is_53 rfl wq_841 wq_153 wq_154 wq_5 wq_150 hy_J0_charAt_5068e (by decide) hj hst (by omega) (by omega) hM
theorem sX10_is_56 {a0 a1 a2 a3 : Value} (hv : am_rf a0 = true) (h : am_R E d mX10_is k n 57 [a0, a1, a2, a3] (a0 :: st) S iv Q) : am_R E d mX10_is k n 56 [a0, a1, a2, a3] st S iv Q := am_aload_n dX10_is_56 rfl rfl hv h
theorem sX10_is_57 {ls : List Value} {a b : Nat} (ha : S.1 a = some (.inl 10)) (hb : S.2.1 a 17 = some b) (h : am_R E d mX10_is k n 60 ls (.ref b :: st) S iv Q) : am_R E d mX10_is k n 57 ls (.ref a :: st) S iv Q := am_getR (ci := 10) dX10_is_57 rfl rfl (by decide) wq_785 uq_10 rfl ha hb h
theorem sX10_is_60 {a0 a1 a2 a3 : Value} (hv : am_rf a0 = true) (h : am_R E d mX10_is k n 61 [a0, a1, a2, a3] (a0 :: st) S iv Q) : am_R E d mX10_is k n 60 [a0, a1, a2, a3] st S iv Q := am_aload_n dX10_is_60 rfl rfl hv h
theorem sX10_is_61 {ls : List Value} {a : Nat} (ha : S.1 a = some (.inl 10)) (h : am_R E d mX10_is k n 64 ls (.int (iv a 23) :: st) S iv Q) : am_R E d mX10_is k n 61 ls (.ref a :: st) S iv Q := am_getI (ci := 10) dX10_is_61 rfl rfl (by decide) wq_820 uq_10 rfl ha h
theorem sX10_is_64 {a0 a1 a2 : Value} {x : Int32} (h : am_R E d mX10_is k n 65 [a0, a1, a2, .int x] (.int x :: st) S iv Q) : am_R E d mX10_is k n 64 [a0, a1, a2, .int x] st S iv Q := am_iload_n dX10_is_64 rfl rfl h
theorem sX10_is_65 {ls : List Value} {x y : Int32} (h : am_R E d mX10_is k n 66 ls (.int (x + y) :: st) S iv Q) : am_R E d mX10_is k n 65 ls (.int y :: .int x :: st) S iv Q := am_iadd dX10_is_65 h
theorem sX10_is_66 {ls : List Value} {a m : Nat} {i : Int32} (ha : S.1 a = some (.inr (.int, m))) (hi : vp_in i m) (h : am_R E d mX10_is k n 67 ls (.int (iv a i.toNatClampNeg) :: st) S iv Q) : am_R E d mX10_is k n 66 ls (.int i :: .ref a :: st) S iv Q := am_iaload dX10_is_66 ha hi h
theorem sX10_is_67 {ls : List Value} {x y : Int32} (kt : ¬ x = y → am_R E d mX10_is k n 74 ls st S iv Q) (kf : x = y → am_R E d mX10_is k n 70 ls st S iv Q) : am_R E d mX10_is k n 67 ls (.int y :: .int x :: st) S iv Q := am_icmp_ne dX10_is_67 (by decide) kt kf
theorem sX10_is_70 {a0 a1 a2 a3 : Value} (h : am_R E d mX10_is k n 71 [a0, a1, a2, a3] (.int 1 :: st) S iv Q) : am_R E d mX10_is k n 70 [a0, a1, a2, a3] st S iv Q := am_iconst dX10_is_70 (by decide) h
theorem sX10_is_71 {ls : List Value} (h : am_R E d mX10_is k n 75 ls st S iv Q) : am_R E d mX10_is k n 71 ls st S iv Q := am_goto dX10_is_71 (by decide) h
theorem sX10_is_74 {a0 a1 a2 a3 : Value} (h : am_R E d mX10_is k n 75 [a0, a1, a2, a3] (.int 0 :: st) S iv Q) : am_R E d mX10_is k n 74 [a0, a1, a2, a3] st S iv Q := am_iconst dX10_is_74 (by decide) h
theorem sX10_is_75 {a0 a1 a2 a3 : Value} {x : Int32} (h : am_R E d mX10_is k n 76 [a0, a1, .int x, a3] st S iv Q) : am_R E d mX10_is k n 75 [a0, a1, a2, a3] (.int x :: st) S iv Q := am_istore_n dX10_is_75 rfl (by decide) h
theorem sX10_is_76 {a0 a1 a2 : Value} {x : Int32} (h : am_R E d mX10_is k n 79 [a0, a1, a2, .int (x + 1)] st S iv Q) : am_R E d mX10_is k n 76 [a0, a1, a2, .int x] st S iv Q := am_iinc dX10_is_76 rfl rfl (by decide) h
theorem sX10_is_79 {ls : List Value} (h : am_R E d mX10_is k n 39 ls st S iv Q) : am_R E d mX10_is k n 79 ls st S iv Q := am_goto dX10_is_79 (by decide) h
theorem sX10_is_82 {a0 a1 a3 : Value} {x : Int32} (h : am_R E d mX10_is k n 83 [a0, a1, .int x, a3] (.int x :: st) S iv Q) : am_R E d mX10_is k n 82 [a0, a1, .int x, a3] st S iv Q := am_iload_n dX10_is_82 rfl rfl h
theorem sX10_is_83 {ls : List Value} {x : Int32} (hn : narrow .boolean (.int x) = .int x) (h : Q (.inl (some (.int x))) S iv) : am_R E d mX10_is k n 83 ls [.int x] S iv Q := am_zreturn dX10_is_83 rfl hn h
theorem dX10_isMarked_0 : decode cX10_isMarked 0 = .ok (.aload_n 0, 1) := by decide +kernel
theorem dX10_isMarked_1 : decode cX10_isMarked 1 = .ok (.getfield 192, 3) := by decide +kernel
theorem dX10_isMarked_4 : decode cX10_isMarked 4 = .ok (.ifCond .ne 28, 3) := by decide +kernel
theorem dX10_isMarked_7 : decode cX10_isMarked 7 = .ok (.aload_n 0, 1) := by decide +kernel
theorem dX10_isMarked_8 : decode cX10_isMarked 8 = .ok (.getfield 166, 3) := by decide +kernel
theorem dX10_isMarked_11 : decode cX10_isMarked 11 = .ok (.iconst 3, 1) := by decide +kernel
theorem dX10_isMarked_12 : decode cX10_isMarked 12 = .ok (.if_icmp .ne 20, 3) := by decide +kernel
theorem dX10_isMarked_15 : decode cX10_isMarked 15 = .ok (.aload_n 0, 1) := by decide +kernel
theorem dX10_isMarked_16 : decode cX10_isMarked 16 = .ok (.getfield 83, 3) := by decide +kernel
theorem dX10_isMarked_19 : decode cX10_isMarked 19 = .ok (.aload_n 0, 1) := by decide +kernel
theorem dX10_isMarked_20 : decode cX10_isMarked 20 = .ok (.getfield 163, 3) := by decide +kernel
theorem dX10_isMarked_23 : decode cX10_isMarked 23 = .ok (.iaload, 1) := by decide +kernel
theorem dX10_isMarked_24 : decode cX10_isMarked 24 = .ok (.iload_n 1, 1) := by decide +kernel
theorem dX10_isMarked_25 : decode cX10_isMarked 25 = .ok (.if_icmp .ne 7, 3) := by decide +kernel
theorem dX10_isMarked_28 : decode cX10_isMarked 28 = .ok (.iconst 1, 1) := by decide +kernel
theorem dX10_isMarked_29 : decode cX10_isMarked 29 = .ok (.goto 4, 3) := by decide +kernel
theorem dX10_isMarked_32 : decode cX10_isMarked 32 = .ok (.iconst 0, 1) := by decide +kernel
theorem dX10_isMarked_33 : decode cX10_isMarked 33 = .ok (.ireturn, 1) := by decide +kernel
theorem sX10_isMarked_0 {a0 a1 : Value} (hv : am_rf a0 = true) (h : am_R E d mX10_isMarked k n 1 [a0, a1] (a0 :: st) S iv Q) : am_R E d mX10_isMarked k n 0 [a0, a1] st S iv Q := am_aload_n dX10_isMarked_0 rfl rfl hv h
theorem sX10_isMarked_1 {ls : List Value} {a : Nat} (ha : S.1 a = some (.inl 10)) (h : am_R E d mX10_isMarked k n 4 ls (.int (iv a 25) :: st) S iv Q) : am_R E d mX10_isMarked k n 1 ls (.ref a :: st) S iv Q := am_getI (ci := 10) dX10_isMarked_1 rfl rfl (by decide) wq_838 uq_10 rfl ha h
theorem sX10_isMarked_4 {ls : List Value} {x : Int32} (kt : ¬ x = 0 → am_R E d mX10_isMarked k n 32 ls st S iv Q) (kf : x = 0 → am_R E d mX10_isMarked k n 7 ls st S iv Q) : am_R E d mX10_isMarked k n 4 ls (.int x :: st) S iv Q := am_if_ne dX10_isMarked_4 (by decide) kt kf
theorem sX10_isMarked_7 {a0 a1 : Value} (hv : am_rf a0 = true) (h : am_R E d mX10_isMarked k n 8 [a0, a1] (a0 :: st) S iv Q) : am_R E d mX10_isMarked k n 7 [a0, a1] st S iv Q := am_aload_n dX10_isMarked_7 rfl rfl hv h
theorem sX10_isMarked_8 {ls : List Value} {a : Nat} (ha : S.1 a = some (.inl 10)) (h : am_R E d mX10_isMarked k n 11 ls (.int (iv a 21) :: st) S iv Q) : am_R E d mX10_isMarked k n 8 ls (.ref a :: st) S iv Q := am_getI (ci := 10) dX10_isMarked_8 rfl rfl (by decide) wq_821 uq_10 rfl ha h
theorem sX10_isMarked_11 {a0 a1 : Value} (h : am_R E d mX10_isMarked k n 12 [a0, a1] (.int 3 :: st) S iv Q) : am_R E d mX10_isMarked k n 11 [a0, a1] st S iv Q := am_iconst dX10_isMarked_11 (by decide) h
theorem sX10_isMarked_12 {ls : List Value} {x y : Int32} (kt : ¬ x = y → am_R E d mX10_isMarked k n 32 ls st S iv Q) (kf : x = y → am_R E d mX10_isMarked k n 15 ls st S iv Q) : am_R E d mX10_isMarked k n 12 ls (.int y :: .int x :: st) S iv Q := am_icmp_ne dX10_isMarked_12 (by decide) kt kf
theorem sX10_isMarked_15 {a0 a1 : Value} (hv : am_rf a0 = true) (h : am_R E d mX10_isMarked k n 16 [a0, a1] (a0 :: st) S iv Q) : am_R E d mX10_isMarked k n 15 [a0, a1] st S iv Q := am_aload_n dX10_isMarked_15 rfl rfl hv h
theorem sX10_isMarked_16 {ls : List Value} {a b : Nat} (ha : S.1 a = some (.inl 10)) (hb : S.2.1 a 17 = some b) (h : am_R E d mX10_isMarked k n 19 ls (.ref b :: st) S iv Q) : am_R E d mX10_isMarked k n 16 ls (.ref a :: st) S iv Q := am_getR (ci := 10) dX10_isMarked_16 rfl rfl (by decide) wq_785 uq_10 rfl ha hb h
theorem sX10_isMarked_19 {a0 a1 : Value} (hv : am_rf a0 = true) (h : am_R E d mX10_isMarked k n 20 [a0, a1] (a0 :: st) S iv Q) : am_R E d mX10_isMarked k n 19 [a0, a1] st S iv Q := am_aload_n dX10_isMarked_19 rfl rfl hv h
theorem sX10_isMarked_20 {ls : List Value} {a : Nat} (ha : S.1 a = some (.inl 10)) (h : am_R E d mX10_isMarked k n 23 ls (.int (iv a 23) :: st) S iv Q) : am_R E d mX10_isMarked k n 20 ls (.ref a :: st) S iv Q := am_getI (ci := 10) dX10_isMarked_20 rfl rfl (by decide) wq_820 uq_10 rfl ha h
theorem sX10_isMarked_23 {ls : List Value} {a m : Nat} {i : Int32} (ha : S.1 a = some (.inr (.int, m))) (hi : vp_in i m) (h : am_R E d mX10_isMarked k n 24 ls (.int (iv a i.toNatClampNeg) :: st) S iv Q) : am_R E d mX10_isMarked k n 23 ls (.int i :: .ref a :: st) S iv Q := am_iaload dX10_isMarked_23 ha hi h
theorem sX10_isMarked_24 {a0 : Value} {x : Int32} (h : am_R E d mX10_isMarked k n 25 [a0, .int x] (.int x :: st) S iv Q) : am_R E d mX10_isMarked k n 24 [a0, .int x] st S iv Q := am_iload_n dX10_isMarked_24 rfl rfl h
theorem sX10_isMarked_25 {ls : List Value} {x y : Int32} (kt : ¬ x = y → am_R E d mX10_isMarked k n 32 ls st S iv Q) (kf : x = y → am_R E d mX10_isMarked k n 28 ls st S iv Q) : am_R E d mX10_isMarked k n 25 ls (.int y :: .int x :: st) S iv Q := am_icmp_ne dX10_isMarked_25 (by decide) kt kf
theorem sX10_isMarked_28 {a0 a1 : Value} (h : am_R E d mX10_isMarked k n 29 [a0, a1] (.int 1 :: st) S iv Q) : am_R E d mX10_isMarked k n 28 [a0, a1] st S iv Q := am_iconst dX10_isMarked_28 (by decide) h
theorem sX10_isMarked_29 {ls : List Value} (h : am_R E d mX10_isMarked k n 33 ls st S iv Q) : am_R E d mX10_isMarked k n 29 ls st S iv Q := am_goto dX10_isMarked_29 (by decide) h
theorem sX10_isMarked_32 {a0 a1 : Value} (h : am_R E d mX10_isMarked k n 33 [a0, a1] (.int 0 :: st) S iv Q) : am_R E d mX10_isMarked k n 32 [a0, a1] st S iv Q := am_iconst dX10_isMarked_32 (by decide) h
theorem sX10_isMarked_33 {ls : List Value} {x : Int32} (hn : narrow .boolean (.int x) = .int x) (h : Q (.inl (some (.int x))) S iv) : am_R E d mX10_isMarked k n 33 ls [.int x] S iv Q := am_zreturn dX10_isMarked_33 rfl hn h
theorem dX10_which_0 : decode cX10_which 0 = .ok (.iconst 0, 1) := by decide +kernel
theorem dX10_which_1 : decode cX10_which 1 = .ok (.istore_n 2, 1) := by decide +kernel
theorem dX10_which_2 : decode cX10_which 2 = .ok (.iload_n 2, 1) := by decide +kernel
theorem dX10_which_3 : decode cX10_which 3 = .ok (.aload_n 1, 1) := by decide +kernel
theorem dX10_which_4 : decode cX10_which 4 = .ok (.arraylength, 1) := by decide +kernel
theorem dX10_which_5 : decode cX10_which 5 = .ok (.if_icmp .ge 21, 3) := by decide +kernel
theorem dX10_which_8 : decode cX10_which 8 = .ok (.aload_n 0, 1) := by decide +kernel
theorem dX10_which_9 : decode cX10_which 9 = .ok (.aload_n 1, 1) := by decide +kernel
theorem dX10_which_10 : decode cX10_which 10 = .ok (.iload_n 2, 1) := by decide +kernel
theorem dX10_which_11 : decode cX10_which 11 = .ok (.aaload, 1) := by decide +kernel
theorem dX10_which_12 : decode cX10_which 12 = .ok (.invokevirtual 205, 3) := by decide +kernel
theorem dX10_which_15 : decode cX10_which 15 = .ok (.ifCond .eq 5, 3) := by decide +kernel
theorem dX10_which_18 : decode cX10_which 18 = .ok (.iload_n 2, 1) := by decide +kernel
theorem dX10_which_19 : decode cX10_which 19 = .ok (.ireturn, 1) := by decide +kernel
theorem dX10_which_20 : decode cX10_which 20 = .ok (.iinc 2 1, 3) := by decide +kernel
theorem dX10_which_23 : decode cX10_which 23 = .ok (.goto (-21), 3) := by decide +kernel
theorem dX10_which_26 : decode cX10_which 26 = .ok (.iconst (-1), 1) := by decide +kernel
theorem dX10_which_27 : decode cX10_which 27 = .ok (.ireturn, 1) := by decide +kernel
theorem sX10_which_0 {a0 a1 a2 : Value} (h : am_R E d mX10_which k n 1 [a0, a1, a2] (.int 0 :: st) S iv Q) : am_R E d mX10_which k n 0 [a0, a1, a2] st S iv Q := am_iconst dX10_which_0 (by decide) h
theorem sX10_which_1 {a0 a1 a2 : Value} {x : Int32} (h : am_R E d mX10_which k n 2 [a0, a1, .int x] st S iv Q) : am_R E d mX10_which k n 1 [a0, a1, a2] (.int x :: st) S iv Q := am_istore_n dX10_which_1 rfl (by decide) h
theorem sX10_which_2 {a0 a1 : Value} {x : Int32} (h : am_R E d mX10_which k n 3 [a0, a1, .int x] (.int x :: st) S iv Q) : am_R E d mX10_which k n 2 [a0, a1, .int x] st S iv Q := am_iload_n dX10_which_2 rfl rfl h
theorem sX10_which_3 {a0 a1 a2 : Value} (hv : am_rf a1 = true) (h : am_R E d mX10_which k n 4 [a0, a1, a2] (a1 :: st) S iv Q) : am_R E d mX10_which k n 3 [a0, a1, a2] st S iv Q := am_aload_n dX10_which_3 rfl rfl hv h
theorem sX10_which_4 {ls : List Value} {a m t : Nat} {ty : FieldType} (ha : S.1 a = some (.inr (ty, m))) (ht : am_ti ty = some t) (h : am_R E d mX10_which k n 5 ls (.int (Int32.ofNat m) :: st) S iv Q) : am_R E d mX10_which k n 4 ls (.ref a :: st) S iv Q := am_alen dX10_which_4 ha ht h
theorem sX10_which_5 {ls : List Value} {x y : Int32} (kt : y ≤ x → am_R E d mX10_which k n 26 ls st S iv Q) (kf : ¬ y ≤ x → am_R E d mX10_which k n 8 ls st S iv Q) : am_R E d mX10_which k n 5 ls (.int y :: .int x :: st) S iv Q := am_icmp_ge dX10_which_5 (by decide) kt kf
theorem sX10_which_8 {a0 a1 a2 : Value} (hv : am_rf a0 = true) (h : am_R E d mX10_which k n 9 [a0, a1, a2] (a0 :: st) S iv Q) : am_R E d mX10_which k n 8 [a0, a1, a2] st S iv Q := am_aload_n dX10_which_8 rfl rfl hv h
theorem sX10_which_9 {a0 a1 a2 : Value} (hv : am_rf a1 = true) (h : am_R E d mX10_which k n 10 [a0, a1, a2] (a1 :: st) S iv Q) : am_R E d mX10_which k n 9 [a0, a1, a2] st S iv Q := am_aload_n dX10_which_9 rfl rfl hv h
theorem sX10_which_10 {a0 a1 : Value} {x : Int32} (h : am_R E d mX10_which k n 11 [a0, a1, .int x] (.int x :: st) S iv Q) : am_R E d mX10_which k n 10 [a0, a1, .int x] st S iv Q := am_iload_n dX10_which_10 rfl rfl h
theorem sX10_which_11 {ls : List Value} {a m j : Nat} {i : Int32} (ha : S.1 a = some (.inr (am_S0, m))) (hi : vp_in i m) (hj : S.2.1 a i.toNatClampNeg = some j) (h : am_R E d mX10_which k n 12 ls (.retAddr j :: st) S iv Q) : am_R E d mX10_which k n 11 ls (.int i :: .ref a :: st) S iv Q := am_aaload dX10_which_11 ha hi hj h
theorem sX10_which_12 {ls : List Value} {x1 : Value} {a : Nat} (ha : S.1 a = some (.inl 10)) (hst : (st.map fun v => v.category).sum ≤ 8) (hM : am_M E d mX10_is 0 0 [.ref a, x1] S iv (am_K3 E (d + 1) mX10_which k n 12 ls st Q)) : am_R E (d + 1) mX10_which k n 12 ls (x1 :: .ref a :: st) S iv Q := am_cV (ci := 10) (M' := mX10_is) (as := [x1]) dX10_which_12 rfl rfl rfl wq_844 wq_845 wq_846 wq_808 wq_842 hy_X10_is (by decide) ha hst (by omega) (by omega) hM
theorem sX10_which_12_k {ls : List Value} {x1 : Value} {k' n' : Nat} {a : Nat} (ha : S.1 a = some (.inl 10)) (hst : (st.map fun v => v.category).sum ≤ 8) (hM : am_M E d mX10_is k' n' [.ref a, x1] S iv (am_K3 E (d + 1) mX10_which k n 12 ls st Q)) : am_R E (d + 1) mX10_which (k' + k) (n' + n) 12 ls (x1 :: .ref a :: st) S iv Q := am_cV (ci := 10) (M' := mX10_is) (as := [x1]) dX10_which_12 rfl rfl rfl wq_844 wq_845 wq_846 wq_808 wq_842 hy_X10_is (by decide) ha hst (by omega) (by omega) hM
theorem sX10_which_15 {ls : List Value} {x : Int32} (kt : x = 0 → am_R E d mX10_which k n 20 ls st S iv Q) (kf : ¬ x = 0 → am_R E d mX10_which k n 18 ls st S iv Q) : am_R E d mX10_which k n 15 ls (.int x :: st) S iv Q := am_if_eq dX10_which_15 (by decide) kt kf
theorem sX10_which_18 {a0 a1 : Value} {x : Int32} (h : am_R E d mX10_which k n 19 [a0, a1, .int x] (.int x :: st) S iv Q) : am_R E d mX10_which k n 18 [a0, a1, .int x] st S iv Q := am_iload_n dX10_which_18 rfl rfl h
theorem sX10_which_19 {ls : List Value} {x : Int32} (h : Q (.inl (some (.int x))) S iv) : am_R E d mX10_which k n 19 ls [.int x] S iv Q := am_ireturn dX10_which_19 rfl h
theorem sX10_which_20 {a0 a1 : Value} {x : Int32} (h : am_R E d mX10_which k n 23 [a0, a1, .int (x + 1)] st S iv Q) : am_R E d mX10_which k n 20 [a0, a1, .int x] st S iv Q := am_iinc dX10_which_20 rfl rfl (by decide) h
theorem sX10_which_23 {ls : List Value} (h : am_R E d mX10_which k n 2 ls st S iv Q) : am_R E d mX10_which k n 23 ls st S iv Q := am_goto dX10_which_23 (by decide) h
theorem sX10_which_26 {a0 a1 a2 : Value} (h : am_R E d mX10_which k n 27 [a0, a1, a2] (.int (-1) :: st) S iv Q) : am_R E d mX10_which k n 26 [a0, a1, a2] st S iv Q := am_iconst dX10_which_26 (by decide) h
theorem sX10_which_27 {ls : List Value} {x : Int32} (h : Q (.inl (some (.int x))) S iv) : am_R E d mX10_which k n 27 ls [.int x] S iv Q := am_ireturn dX10_which_27 rfl h
theorem dX10_passes_0 : decode cX10_passes 0 = .ok (.aload_n 0, 1) := by decide +kernel
theorem dX10_passes_1 : decode cX10_passes 1 = .ok (.aload_n 1, 1) := by decide +kernel
theorem dX10_passes_2 : decode cX10_passes 2 = .ok (.invokevirtual 205, 3) := by decide +kernel
theorem dX10_passes_5 : decode cX10_passes 5 = .ok (.istore_n 2, 1) := by decide +kernel
theorem dX10_passes_6 : decode cX10_passes 6 = .ok (.iload_n 2, 1) := by decide +kernel
theorem dX10_passes_7 : decode cX10_passes 7 = .ok (.ifCond .eq 7, 3) := by decide +kernel
theorem dX10_passes_10 : decode cX10_passes 10 = .ok (.aload_n 0, 1) := by decide +kernel
theorem dX10_passes_11 : decode cX10_passes 11 = .ok (.invokevirtual 209, 3) := by decide +kernel
theorem dX10_passes_14 : decode cX10_passes 14 = .ok (.iload_n 2, 1) := by decide +kernel
theorem dX10_passes_15 : decode cX10_passes 15 = .ok (.ireturn, 1) := by decide +kernel
theorem sX10_passes_0 {a0 a1 a2 : Value} (hv : am_rf a0 = true) (h : am_R E d mX10_passes k n 1 [a0, a1, a2] (a0 :: st) S iv Q) : am_R E d mX10_passes k n 0 [a0, a1, a2] st S iv Q := am_aload_n dX10_passes_0 rfl rfl hv h
theorem sX10_passes_1 {a0 a1 a2 : Value} (hv : am_rf a1 = true) (h : am_R E d mX10_passes k n 2 [a0, a1, a2] (a1 :: st) S iv Q) : am_R E d mX10_passes k n 1 [a0, a1, a2] st S iv Q := am_aload_n dX10_passes_1 rfl rfl hv h
theorem sX10_passes_2 {ls : List Value} {x1 : Value} {a : Nat} (ha : S.1 a = some (.inl 10)) (hst : (st.map fun v => v.category).sum ≤ 8) (hM : am_M E d mX10_is 0 0 [.ref a, x1] S iv (am_K3 E (d + 1) mX10_passes k n 2 ls st Q)) : am_R E (d + 1) mX10_passes k n 2 ls (x1 :: .ref a :: st) S iv Q := am_cV (ci := 10) (M' := mX10_is) (as := [x1]) dX10_passes_2 rfl rfl rfl wq_844 wq_845 wq_846 wq_808 wq_842 hy_X10_is (by decide) ha hst (by omega) (by omega) hM
theorem sX10_passes_2_k {ls : List Value} {x1 : Value} {k' n' : Nat} {a : Nat} (ha : S.1 a = some (.inl 10)) (hst : (st.map fun v => v.category).sum ≤ 8) (hM : am_M E d mX10_is k' n' [.ref a, x1] S iv (am_K3 E (d + 1) mX10_passes k n 2 ls st Q)) : am_R E (d + 1) mX10_passes (k' + k) (n' + n) 2 ls (x1 :: .ref a :: st) S iv Q := am_cV (ci := 10) (M' := mX10_is) (as := [x1]) dX10_passes_2 rfl rfl rfl wq_844 wq_845 wq_846 wq_808 wq_842 hy_X10_is (by decide) ha hst (by omega) (by omega) hM
theorem sX10_passes_5 {a0 a1 a2 : Value} {x : Int32} (h : am_R E d mX10_passes k n 6 [a0, a1, .int x] st S iv Q) : am_R E d mX10_passes k n 5 [a0, a1, a2] (.int x :: st) S iv Q := am_istore_n dX10_passes_5 rfl (by decide) h
theorem sX10_passes_6 {a0 a1 : Value} {x : Int32} (h : am_R E d mX10_passes k n 7 [a0, a1, .int x] (.int x :: st) S iv Q) : am_R E d mX10_passes k n 6 [a0, a1, .int x] st S iv Q := am_iload_n dX10_passes_6 rfl rfl h
theorem sX10_passes_7 {ls : List Value} {x : Int32} (kt : x = 0 → am_R E d mX10_passes k n 14 ls st S iv Q) (kf : ¬ x = 0 → am_R E d mX10_passes k n 10 ls st S iv Q) : am_R E d mX10_passes k n 7 ls (.int x :: st) S iv Q := am_if_eq dX10_passes_7 (by decide) kt kf
theorem sX10_passes_10 {a0 a1 a2 : Value} (hv : am_rf a0 = true) (h : am_R E d mX10_passes k n 11 [a0, a1, a2] (a0 :: st) S iv Q) : am_R E d mX10_passes k n 10 [a0, a1, a2] st S iv Q := am_aload_n dX10_passes_10 rfl rfl hv h
theorem sX10_passes_11 {ls : List Value} {a : Nat} (ha : S.1 a = some (.inl 10)) (hst : (st.map fun v => v.category).sum ≤ 8) (hM : am_M E d mX10_stepOn 0 0 [.ref a] S iv (am_K3 E (d + 1) mX10_passes k n 11 ls st Q)) : am_R E (d + 1) mX10_passes k n 11 ls (.ref a :: st) S iv Q := am_cV (ci := 10) (M' := mX10_stepOn) (as := []) dX10_passes_11 rfl rfl rfl wq_849 wq_850 wq_851 wq_808 wq_847 hy_X10_stepOn (by decide) ha hst (by omega) (by omega) hM
theorem sX10_passes_11_k {ls : List Value} {k' n' : Nat} {a : Nat} (ha : S.1 a = some (.inl 10)) (hst : (st.map fun v => v.category).sum ≤ 8) (hM : am_M E d mX10_stepOn k' n' [.ref a] S iv (am_K3 E (d + 1) mX10_passes k n 11 ls st Q)) : am_R E (d + 1) mX10_passes (k' + k) (n' + n) 11 ls (.ref a :: st) S iv Q := am_cV (ci := 10) (M' := mX10_stepOn) (as := []) dX10_passes_11 rfl rfl rfl wq_849 wq_850 wq_851 wq_808 wq_847 hy_X10_stepOn (by decide) ha hst (by omega) (by omega) hM
theorem sX10_passes_14 {a0 a1 : Value} {x : Int32} (h : am_R E d mX10_passes k n 15 [a0, a1, .int x] (.int x :: st) S iv Q) : am_R E d mX10_passes k n 14 [a0, a1, .int x] st S iv Q := am_iload_n dX10_passes_14 rfl rfl h
theorem sX10_passes_15 {ls : List Value} {x : Int32} (hn : narrow .boolean (.int x) = .int x) (h : Q (.inl (some (.int x))) S iv) : am_R E d mX10_passes k n 15 ls [.int x] S iv Q := am_zreturn dX10_passes_15 rfl hn h
theorem dX10_mark_0 : decode cX10_mark 0 = .ok (.aload_n 0, 1) := by decide +kernel
theorem dX10_mark_1 : decode cX10_mark 1 = .ok (.getfield 192, 3) := by decide +kernel
theorem dX10_mark_4 : decode cX10_mark 4 = .ok (.ifCond .ne 16, 3) := by decide +kernel
theorem dX10_mark_7 : decode cX10_mark 7 = .ok (.aload_n 0, 1) := by decide +kernel
theorem dX10_mark_8 : decode cX10_mark 8 = .ok (.iload_n 1, 1) := by decide +kernel
theorem dX10_mark_9 : decode cX10_mark 9 = .ok (.invokevirtual 212, 3) := by decide +kernel
theorem dX10_mark_12 : decode cX10_mark 12 = .ok (.ifCond .ne 8, 3) := by decide +kernel
theorem dX10_mark_15 : decode cX10_mark 15 = .ok (.aload_n 0, 1) := by decide +kernel
theorem dX10_mark_16 : decode cX10_mark 16 = .ok (.iconst 1, 1) := by decide +kernel
theorem dX10_mark_17 : decode cX10_mark 17 = .ok (.invokevirtual 215, 3) := by decide +kernel
theorem dX10_mark_20 : decode cX10_mark 20 = .ok (.aload_n 0, 1) := by decide +kernel
theorem dX10_mark_21 : decode cX10_mark 21 = .ok (.getfield 192, 3) := by decide +kernel
theorem dX10_mark_24 : decode cX10_mark 24 = .ok (.ifCond .ne 7, 3) := by decide +kernel
theorem dX10_mark_27 : decode cX10_mark 27 = .ok (.aload_n 0, 1) := by decide +kernel
theorem dX10_mark_28 : decode cX10_mark 28 = .ok (.invokevirtual 209, 3) := by decide +kernel
theorem dX10_mark_31 : decode cX10_mark 31 = .ok (.return_, 1) := by decide +kernel
theorem sX10_mark_0 {a0 a1 : Value} (hv : am_rf a0 = true) (h : am_R E d mX10_mark k n 1 [a0, a1] (a0 :: st) S iv Q) : am_R E d mX10_mark k n 0 [a0, a1] st S iv Q := am_aload_n dX10_mark_0 rfl rfl hv h
theorem sX10_mark_1 {ls : List Value} {a : Nat} (ha : S.1 a = some (.inl 10)) (h : am_R E d mX10_mark k n 4 ls (.int (iv a 25) :: st) S iv Q) : am_R E d mX10_mark k n 1 ls (.ref a :: st) S iv Q := am_getI (ci := 10) dX10_mark_1 rfl rfl (by decide) wq_838 uq_10 rfl ha h
theorem sX10_mark_4 {ls : List Value} {x : Int32} (kt : ¬ x = 0 → am_R E d mX10_mark k n 20 ls st S iv Q) (kf : x = 0 → am_R E d mX10_mark k n 7 ls st S iv Q) : am_R E d mX10_mark k n 4 ls (.int x :: st) S iv Q := am_if_ne dX10_mark_4 (by decide) kt kf
theorem sX10_mark_7 {a0 a1 : Value} (hv : am_rf a0 = true) (h : am_R E d mX10_mark k n 8 [a0, a1] (a0 :: st) S iv Q) : am_R E d mX10_mark k n 7 [a0, a1] st S iv Q := am_aload_n dX10_mark_7 rfl rfl hv h
theorem sX10_mark_8 {a0 : Value} {x : Int32} (h : am_R E d mX10_mark k n 9 [a0, .int x] (.int x :: st) S iv Q) : am_R E d mX10_mark k n 8 [a0, .int x] st S iv Q := am_iload_n dX10_mark_8 rfl rfl h
theorem sX10_mark_9 {ls : List Value} {x1 : Value} {a : Nat} (ha : S.1 a = some (.inl 10)) (hst : (st.map fun v => v.category).sum ≤ 8) (hM : am_M E d mX10_isMarked 0 0 [.ref a, x1] S iv (am_K3 E (d + 1) mX10_mark k n 9 ls st Q)) : am_R E (d + 1) mX10_mark k n 9 ls (x1 :: .ref a :: st) S iv Q := am_cV (ci := 10) (M' := mX10_isMarked) (as := [x1]) dX10_mark_9 rfl rfl rfl wq_854 wq_855 wq_856 wq_808 wq_852 hy_X10_isMarked (by decide) ha hst (by omega) (by omega) hM
theorem sX10_mark_9_k {ls : List Value} {x1 : Value} {k' n' : Nat} {a : Nat} (ha : S.1 a = some (.inl 10)) (hst : (st.map fun v => v.category).sum ≤ 8) (hM : am_M E d mX10_isMarked k' n' [.ref a, x1] S iv (am_K3 E (d + 1) mX10_mark k n 9 ls st Q)) : am_R E (d + 1) mX10_mark (k' + k) (n' + n) 9 ls (x1 :: .ref a :: st) S iv Q := am_cV (ci := 10) (M' := mX10_isMarked) (as := [x1]) dX10_mark_9 rfl rfl rfl wq_854 wq_855 wq_856 wq_808 wq_852 hy_X10_isMarked (by decide) ha hst (by omega) (by omega) hM
theorem sX10_mark_12 {ls : List Value} {x : Int32} (kt : ¬ x = 0 → am_R E d mX10_mark k n 20 ls st S iv Q) (kf : x = 0 → am_R E d mX10_mark k n 15 ls st S iv Q) : am_R E d mX10_mark k n 12 ls (.int x :: st) S iv Q := am_if_ne dX10_mark_12 (by decide) kt kf
theorem sX10_mark_15 {a0 a1 : Value} (hv : am_rf a0 = true) (h : am_R E d mX10_mark k n 16 [a0, a1] (a0 :: st) S iv Q) : am_R E d mX10_mark k n 15 [a0, a1] st S iv Q := am_aload_n dX10_mark_15 rfl rfl hv h
theorem sX10_mark_16 {a0 a1 : Value} (h : am_R E d mX10_mark k n 17 [a0, a1] (.int 1 :: st) S iv Q) : am_R E d mX10_mark k n 16 [a0, a1] st S iv Q := am_iconst dX10_mark_16 (by decide) h
theorem sX10_mark_17 {ls : List Value} {x1 : Value} {a : Nat} (ha : S.1 a = some (.inl 10)) (hst : (st.map fun v => v.category).sum ≤ 8) (hM : am_M E d mX10_wrong 0 0 [.ref a, x1] S iv (am_K3 E (d + 1) mX10_mark k n 17 ls st Q)) : am_R E (d + 1) mX10_mark k n 17 ls (x1 :: .ref a :: st) S iv Q := am_cV (ci := 10) (M' := mX10_wrong) (as := [x1]) dX10_mark_17 rfl rfl rfl wq_859 wq_860 wq_861 wq_808 wq_857 hy_X10_wrong (by decide) ha hst (by omega) (by omega) hM
theorem sX10_mark_17_k {ls : List Value} {x1 : Value} {k' n' : Nat} {a : Nat} (ha : S.1 a = some (.inl 10)) (hst : (st.map fun v => v.category).sum ≤ 8) (hM : am_M E d mX10_wrong k' n' [.ref a, x1] S iv (am_K3 E (d + 1) mX10_mark k n 17 ls st Q)) : am_R E (d + 1) mX10_mark (k' + k) (n' + n) 17 ls (x1 :: .ref a :: st) S iv Q := am_cV (ci := 10) (M' := mX10_wrong) (as := [x1]) dX10_mark_17 rfl rfl rfl wq_859 wq_860 wq_861 wq_808 wq_857 hy_X10_wrong (by decide) ha hst (by omega) (by omega) hM
theorem sX10_mark_20 {a0 a1 : Value} (hv : am_rf a0 = true) (h : am_R E d mX10_mark k n 21 [a0, a1] (a0 :: st) S iv Q) : am_R E d mX10_mark k n 20 [a0, a1] st S iv Q := am_aload_n dX10_mark_20 rfl rfl hv h
theorem sX10_mark_21 {ls : List Value} {a : Nat} (ha : S.1 a = some (.inl 10)) (h : am_R E d mX10_mark k n 24 ls (.int (iv a 25) :: st) S iv Q) : am_R E d mX10_mark k n 21 ls (.ref a :: st) S iv Q := am_getI (ci := 10) dX10_mark_21 rfl rfl (by decide) wq_838 uq_10 rfl ha h
theorem sX10_mark_24 {ls : List Value} {x : Int32} (kt : ¬ x = 0 → am_R E d mX10_mark k n 31 ls st S iv Q) (kf : x = 0 → am_R E d mX10_mark k n 27 ls st S iv Q) : am_R E d mX10_mark k n 24 ls (.int x :: st) S iv Q := am_if_ne dX10_mark_24 (by decide) kt kf
theorem sX10_mark_27 {a0 a1 : Value} (hv : am_rf a0 = true) (h : am_R E d mX10_mark k n 28 [a0, a1] (a0 :: st) S iv Q) : am_R E d mX10_mark k n 27 [a0, a1] st S iv Q := am_aload_n dX10_mark_27 rfl rfl hv h
theorem sX10_mark_28 {ls : List Value} {a : Nat} (ha : S.1 a = some (.inl 10)) (hst : (st.map fun v => v.category).sum ≤ 8) (hM : am_M E d mX10_stepOn 0 0 [.ref a] S iv (am_K3 E (d + 1) mX10_mark k n 28 ls st Q)) : am_R E (d + 1) mX10_mark k n 28 ls (.ref a :: st) S iv Q := am_cV (ci := 10) (M' := mX10_stepOn) (as := []) dX10_mark_28 rfl rfl rfl wq_849 wq_850 wq_851 wq_808 wq_847 hy_X10_stepOn (by decide) ha hst (by omega) (by omega) hM
theorem sX10_mark_28_k {ls : List Value} {k' n' : Nat} {a : Nat} (ha : S.1 a = some (.inl 10)) (hst : (st.map fun v => v.category).sum ≤ 8) (hM : am_M E d mX10_stepOn k' n' [.ref a] S iv (am_K3 E (d + 1) mX10_mark k n 28 ls st Q)) : am_R E (d + 1) mX10_mark (k' + k) (n' + n) 28 ls (.ref a :: st) S iv Q := am_cV (ci := 10) (M' := mX10_stepOn) (as := []) dX10_mark_28 rfl rfl rfl wq_849 wq_850 wq_851 wq_808 wq_847 hy_X10_stepOn (by decide) ha hst (by omega) (by omega) hM
theorem sX10_mark_31 {ls : List Value} (h : Q (.inl none) S iv) : am_R E d mX10_mark k n 31 ls [] S iv Q := am_return dX10_mark_31 rfl h
theorem dX10_numberNow_0 : decode cX10_numberNow 0 = .ok (.aload_n 0, 1) := by decide +kernel
theorem dX10_numberNow_1 : decode cX10_numberNow 1 = .ok (.getfield 192, 3) := by decide +kernel
theorem dX10_numberNow_4 : decode cX10_numberNow 4 = .ok (.ifCond .eq 5, 3) := by decide +kernel
theorem dX10_numberNow_7 : decode cX10_numberNow 7 = .ok (.iconst 0, 1) := by decide +kernel
theorem dX10_numberNow_8 : decode cX10_numberNow 8 = .ok (.ireturn, 1) := by decide +kernel
theorem dX10_numberNow_9 : decode cX10_numberNow 9 = .ok (.aload_n 0, 1) := by decide +kernel
theorem dX10_numberNow_10 : decode cX10_numberNow 10 = .ok (.getfield 166, 3) := by decide +kernel
theorem dX10_numberNow_13 : decode cX10_numberNow 13 = .ok (.iconst 2, 1) := by decide +kernel
theorem dX10_numberNow_14 : decode cX10_numberNow 14 = .ok (.if_icmp .eq 11, 3) := by decide +kernel
theorem dX10_numberNow_17 : decode cX10_numberNow 17 = .ok (.aload_n 0, 1) := by decide +kernel
theorem dX10_numberNow_18 : decode cX10_numberNow 18 = .ok (.iconst 1, 1) := by decide +kernel
theorem dX10_numberNow_19 : decode cX10_numberNow 19 = .ok (.invokevirtual 215, 3) := by decide +kernel
theorem dX10_numberNow_22 : decode cX10_numberNow 22 = .ok (.goto 37, 3) := by decide +kernel
theorem dX10_numberNow_25 : decode cX10_numberNow 25 = .ok (.aload_n 0, 1) := by decide +kernel
theorem dX10_numberNow_26 : decode cX10_numberNow 26 = .ok (.getfield 189, 3) := by decide +kernel
theorem dX10_numberNow_29 : decode cX10_numberNow 29 = .ok (.aload_n 0, 1) := by decide +kernel
theorem dX10_numberNow_30 : decode cX10_numberNow 30 = .ok (.getfield 163, 3) := by decide +kernel
theorem dX10_numberNow_33 : decode cX10_numberNow 33 = .ok (.isub, 1) := by decide +kernel
theorem dX10_numberNow_34 : decode cX10_numberNow 34 = .ok (.iconst 4, 1) := by decide +kernel
theorem dX10_numberNow_35 : decode cX10_numberNow 35 = .ok (.if_icmp .gt 19, 3) := by decide +kernel
theorem dX10_numberNow_38 : decode cX10_numberNow 38 = .ok (.aload_n 0, 1) := by decide +kernel
theorem dX10_numberNow_39 : decode cX10_numberNow 39 = .ok (.getfield 176, 3) := by decide +kernel
theorem dX10_numberNow_42 : decode cX10_numberNow 42 = .ok (.iload_n 1, 1) := by decide +kernel
theorem dX10_numberNow_43 : decode cX10_numberNow 43 = .ok (.if_icmp .lt 11, 3) := by decide +kernel
theorem dX10_numberNow_46 : decode cX10_numberNow 46 = .ok (.aload_n 0, 1) := by decide +kernel
theorem dX10_numberNow_47 : decode cX10_numberNow 47 = .ok (.getfield 176, 3) := by decide +kernel
theorem dX10_numberNow_50 : decode cX10_numberNow 50 = .ok (.iload_n 2, 1) := by decide +kernel
theorem dX10_numberNow_51 : decode cX10_numberNow 51 = .ok (.if_icmp .le 8, 3) := by decide +kernel
theorem dX10_numberNow_54 : decode cX10_numberNow 54 = .ok (.aload_n 0, 1) := by decide +kernel
theorem dX10_numberNow_55 : decode cX10_numberNow 55 = .ok (.iconst 2, 1) := by decide +kernel
theorem dX10_numberNow_56 : decode cX10_numberNow 56 = .ok (.invokevirtual 215, 3) := by decide +kernel
theorem dX10_numberNow_59 : decode cX10_numberNow 59 = .ok (.aload_n 0, 1) := by decide +kernel
theorem dX10_numberNow_60 : decode cX10_numberNow 60 = .ok (.getfield 192, 3) := by decide +kernel
theorem dX10_numberNow_63 : decode cX10_numberNow 63 = .ok (.ifCond .ne 10, 3) := by decide +kernel
theorem dX10_numberNow_66 : decode cX10_numberNow 66 = .ok (.aload_n 0, 1) := by decide +kernel
theorem dX10_numberNow_67 : decode cX10_numberNow 67 = .ok (.getfield 176, 3) := by decide +kernel
theorem dX10_numberNow_70 : decode cX10_numberNow 70 = .ok (.goto 4, 3) := by decide +kernel
theorem dX10_numberNow_73 : decode cX10_numberNow 73 = .ok (.iconst 0, 1) := by decide +kernel
theorem dX10_numberNow_74 : decode cX10_numberNow 74 = .ok (.ireturn, 1) := by decide +kernel
theorem sX10_numberNow_0 {a0 a1 a2 : Value} (hv : am_rf a0 = true) (h : am_R E d mX10_numberNow k n 1 [a0, a1, a2] (a0 :: st) S iv Q) : am_R E d mX10_numberNow k n 0 [a0, a1, a2] st S iv Q := am_aload_n dX10_numberNow_0 rfl rfl hv h
theorem sX10_numberNow_1 {ls : List Value} {a : Nat} (ha : S.1 a = some (.inl 10)) (h : am_R E d mX10_numberNow k n 4 ls (.int (iv a 25) :: st) S iv Q) : am_R E d mX10_numberNow k n 1 ls (.ref a :: st) S iv Q := am_getI (ci := 10) dX10_numberNow_1 rfl rfl (by decide) wq_838 uq_10 rfl ha h
theorem sX10_numberNow_4 {ls : List Value} {x : Int32} (kt : x = 0 → am_R E d mX10_numberNow k n 9 ls st S iv Q) (kf : ¬ x = 0 → am_R E d mX10_numberNow k n 7 ls st S iv Q) : am_R E d mX10_numberNow k n 4 ls (.int x :: st) S iv Q := am_if_eq dX10_numberNow_4 (by decide) kt kf
theorem sX10_numberNow_7 {a0 a1 a2 : Value} (h : am_R E d mX10_numberNow k n 8 [a0, a1, a2] (.int 0 :: st) S iv Q) : am_R E d mX10_numberNow k n 7 [a0, a1, a2] st S iv Q := am_iconst dX10_numberNow_7 (by decide) h
theorem sX10_numberNow_8 {ls : List Value} {x : Int32} (h : Q (.inl (some (.int x))) S iv) : am_R E d mX10_numberNow k n 8 ls [.int x] S iv Q := am_ireturn dX10_numberNow_8 rfl h
theorem sX10_numberNow_9 {a0 a1 a2 : Value} (hv : am_rf a0 = true) (h : am_R E d mX10_numberNow k n 10 [a0, a1, a2] (a0 :: st) S iv Q) : am_R E d mX10_numberNow k n 9 [a0, a1, a2] st S iv Q := am_aload_n dX10_numberNow_9 rfl rfl hv h
theorem sX10_numberNow_10 {ls : List Value} {a : Nat} (ha : S.1 a = some (.inl 10)) (h : am_R E d mX10_numberNow k n 13 ls (.int (iv a 21) :: st) S iv Q) : am_R E d mX10_numberNow k n 10 ls (.ref a :: st) S iv Q := am_getI (ci := 10) dX10_numberNow_10 rfl rfl (by decide) wq_821 uq_10 rfl ha h
theorem sX10_numberNow_13 {a0 a1 a2 : Value} (h : am_R E d mX10_numberNow k n 14 [a0, a1, a2] (.int 2 :: st) S iv Q) : am_R E d mX10_numberNow k n 13 [a0, a1, a2] st S iv Q := am_iconst dX10_numberNow_13 (by decide) h
theorem sX10_numberNow_14 {ls : List Value} {x y : Int32} (kt : x = y → am_R E d mX10_numberNow k n 25 ls st S iv Q) (kf : ¬ x = y → am_R E d mX10_numberNow k n 17 ls st S iv Q) : am_R E d mX10_numberNow k n 14 ls (.int y :: .int x :: st) S iv Q := am_icmp_eq dX10_numberNow_14 (by decide) kt kf
theorem sX10_numberNow_17 {a0 a1 a2 : Value} (hv : am_rf a0 = true) (h : am_R E d mX10_numberNow k n 18 [a0, a1, a2] (a0 :: st) S iv Q) : am_R E d mX10_numberNow k n 17 [a0, a1, a2] st S iv Q := am_aload_n dX10_numberNow_17 rfl rfl hv h
theorem sX10_numberNow_18 {a0 a1 a2 : Value} (h : am_R E d mX10_numberNow k n 19 [a0, a1, a2] (.int 1 :: st) S iv Q) : am_R E d mX10_numberNow k n 18 [a0, a1, a2] st S iv Q := am_iconst dX10_numberNow_18 (by decide) h
theorem sX10_numberNow_19 {ls : List Value} {x1 : Value} {a : Nat} (ha : S.1 a = some (.inl 10)) (hst : (st.map fun v => v.category).sum ≤ 8) (hM : am_M E d mX10_wrong 0 0 [.ref a, x1] S iv (am_K3 E (d + 1) mX10_numberNow k n 19 ls st Q)) : am_R E (d + 1) mX10_numberNow k n 19 ls (x1 :: .ref a :: st) S iv Q := am_cV (ci := 10) (M' := mX10_wrong) (as := [x1]) dX10_numberNow_19 rfl rfl rfl wq_859 wq_860 wq_861 wq_808 wq_857 hy_X10_wrong (by decide) ha hst (by omega) (by omega) hM
theorem sX10_numberNow_19_k {ls : List Value} {x1 : Value} {k' n' : Nat} {a : Nat} (ha : S.1 a = some (.inl 10)) (hst : (st.map fun v => v.category).sum ≤ 8) (hM : am_M E d mX10_wrong k' n' [.ref a, x1] S iv (am_K3 E (d + 1) mX10_numberNow k n 19 ls st Q)) : am_R E (d + 1) mX10_numberNow (k' + k) (n' + n) 19 ls (x1 :: .ref a :: st) S iv Q := am_cV (ci := 10) (M' := mX10_wrong) (as := [x1]) dX10_numberNow_19 rfl rfl rfl wq_859 wq_860 wq_861 wq_808 wq_857 hy_X10_wrong (by decide) ha hst (by omega) (by omega) hM
theorem sX10_numberNow_22 {ls : List Value} (h : am_R E d mX10_numberNow k n 59 ls st S iv Q) : am_R E d mX10_numberNow k n 22 ls st S iv Q := am_goto dX10_numberNow_22 (by decide) h
theorem sX10_numberNow_25 {a0 a1 a2 : Value} (hv : am_rf a0 = true) (h : am_R E d mX10_numberNow k n 26 [a0, a1, a2] (a0 :: st) S iv Q) : am_R E d mX10_numberNow k n 25 [a0, a1, a2] st S iv Q := am_aload_n dX10_numberNow_25 rfl rfl hv h
theorem sX10_numberNow_26 {ls : List Value} {a : Nat} (ha : S.1 a = some (.inl 10)) (h : am_R E d mX10_numberNow k n 29 ls (.int (iv a 24) :: st) S iv Q) : am_R E d mX10_numberNow k n 26 ls (.ref a :: st) S iv Q := am_getI (ci := 10) dX10_numberNow_26 rfl rfl (by decide) wq_837 uq_10 rfl ha h
theorem sX10_numberNow_29 {a0 a1 a2 : Value} (hv : am_rf a0 = true) (h : am_R E d mX10_numberNow k n 30 [a0, a1, a2] (a0 :: st) S iv Q) : am_R E d mX10_numberNow k n 29 [a0, a1, a2] st S iv Q := am_aload_n dX10_numberNow_29 rfl rfl hv h
theorem sX10_numberNow_30 {ls : List Value} {a : Nat} (ha : S.1 a = some (.inl 10)) (h : am_R E d mX10_numberNow k n 33 ls (.int (iv a 23) :: st) S iv Q) : am_R E d mX10_numberNow k n 30 ls (.ref a :: st) S iv Q := am_getI (ci := 10) dX10_numberNow_30 rfl rfl (by decide) wq_820 uq_10 rfl ha h
theorem sX10_numberNow_33 {ls : List Value} {x y : Int32} (h : am_R E d mX10_numberNow k n 34 ls (.int (x - y) :: st) S iv Q) : am_R E d mX10_numberNow k n 33 ls (.int y :: .int x :: st) S iv Q := am_isub dX10_numberNow_33 h
theorem sX10_numberNow_34 {a0 a1 a2 : Value} (h : am_R E d mX10_numberNow k n 35 [a0, a1, a2] (.int 4 :: st) S iv Q) : am_R E d mX10_numberNow k n 34 [a0, a1, a2] st S iv Q := am_iconst dX10_numberNow_34 (by decide) h
theorem sX10_numberNow_35 {ls : List Value} {x y : Int32} (kt : y < x → am_R E d mX10_numberNow k n 54 ls st S iv Q) (kf : ¬ y < x → am_R E d mX10_numberNow k n 38 ls st S iv Q) : am_R E d mX10_numberNow k n 35 ls (.int y :: .int x :: st) S iv Q := am_icmp_gt dX10_numberNow_35 (by decide) kt kf
theorem sX10_numberNow_38 {a0 a1 a2 : Value} (hv : am_rf a0 = true) (h : am_R E d mX10_numberNow k n 39 [a0, a1, a2] (a0 :: st) S iv Q) : am_R E d mX10_numberNow k n 38 [a0, a1, a2] st S iv Q := am_aload_n dX10_numberNow_38 rfl rfl hv h
theorem sX10_numberNow_39 {ls : List Value} {a : Nat} (ha : S.1 a = some (.inl 10)) (h : am_R E d mX10_numberNow k n 42 ls (.int (iv a 22) :: st) S iv Q) : am_R E d mX10_numberNow k n 39 ls (.ref a :: st) S iv Q := am_getI (ci := 10) dX10_numberNow_39 rfl rfl (by decide) wq_830 uq_10 rfl ha h
theorem sX10_numberNow_42 {a0 a2 : Value} {x : Int32} (h : am_R E d mX10_numberNow k n 43 [a0, .int x, a2] (.int x :: st) S iv Q) : am_R E d mX10_numberNow k n 42 [a0, .int x, a2] st S iv Q := am_iload_n dX10_numberNow_42 rfl rfl h
theorem sX10_numberNow_43 {ls : List Value} {x y : Int32} (kt : x < y → am_R E d mX10_numberNow k n 54 ls st S iv Q) (kf : ¬ x < y → am_R E d mX10_numberNow k n 46 ls st S iv Q) : am_R E d mX10_numberNow k n 43 ls (.int y :: .int x :: st) S iv Q := am_icmp_lt dX10_numberNow_43 (by decide) kt kf
theorem sX10_numberNow_46 {a0 a1 a2 : Value} (hv : am_rf a0 = true) (h : am_R E d mX10_numberNow k n 47 [a0, a1, a2] (a0 :: st) S iv Q) : am_R E d mX10_numberNow k n 46 [a0, a1, a2] st S iv Q := am_aload_n dX10_numberNow_46 rfl rfl hv h
theorem sX10_numberNow_47 {ls : List Value} {a : Nat} (ha : S.1 a = some (.inl 10)) (h : am_R E d mX10_numberNow k n 50 ls (.int (iv a 22) :: st) S iv Q) : am_R E d mX10_numberNow k n 47 ls (.ref a :: st) S iv Q := am_getI (ci := 10) dX10_numberNow_47 rfl rfl (by decide) wq_830 uq_10 rfl ha h
theorem sX10_numberNow_50 {a0 a1 : Value} {x : Int32} (h : am_R E d mX10_numberNow k n 51 [a0, a1, .int x] (.int x :: st) S iv Q) : am_R E d mX10_numberNow k n 50 [a0, a1, .int x] st S iv Q := am_iload_n dX10_numberNow_50 rfl rfl h
theorem sX10_numberNow_51 {ls : List Value} {x y : Int32} (kt : x ≤ y → am_R E d mX10_numberNow k n 59 ls st S iv Q) (kf : ¬ x ≤ y → am_R E d mX10_numberNow k n 54 ls st S iv Q) : am_R E d mX10_numberNow k n 51 ls (.int y :: .int x :: st) S iv Q := am_icmp_le dX10_numberNow_51 (by decide) kt kf
theorem sX10_numberNow_54 {a0 a1 a2 : Value} (hv : am_rf a0 = true) (h : am_R E d mX10_numberNow k n 55 [a0, a1, a2] (a0 :: st) S iv Q) : am_R E d mX10_numberNow k n 54 [a0, a1, a2] st S iv Q := am_aload_n dX10_numberNow_54 rfl rfl hv h
theorem sX10_numberNow_55 {a0 a1 a2 : Value} (h : am_R E d mX10_numberNow k n 56 [a0, a1, a2] (.int 2 :: st) S iv Q) : am_R E d mX10_numberNow k n 55 [a0, a1, a2] st S iv Q := am_iconst dX10_numberNow_55 (by decide) h
theorem sX10_numberNow_56 {ls : List Value} {x1 : Value} {a : Nat} (ha : S.1 a = some (.inl 10)) (hst : (st.map fun v => v.category).sum ≤ 8) (hM : am_M E d mX10_wrong 0 0 [.ref a, x1] S iv (am_K3 E (d + 1) mX10_numberNow k n 56 ls st Q)) : am_R E (d + 1) mX10_numberNow k n 56 ls (x1 :: .ref a :: st) S iv Q := am_cV (ci := 10) (M' := mX10_wrong) (as := [x1]) dX10_numberNow_56 rfl rfl rfl wq_859 wq_860 wq_861 wq_808 wq_857 hy_X10_wrong (by decide) ha hst (by omega) (by omega) hM
theorem sX10_numberNow_56_k {ls : List Value} {x1 : Value} {k' n' : Nat} {a : Nat} (ha : S.1 a = some (.inl 10)) (hst : (st.map fun v => v.category).sum ≤ 8) (hM : am_M E d mX10_wrong k' n' [.ref a, x1] S iv (am_K3 E (d + 1) mX10_numberNow k n 56 ls st Q)) : am_R E (d + 1) mX10_numberNow (k' + k) (n' + n) 56 ls (x1 :: .ref a :: st) S iv Q := am_cV (ci := 10) (M' := mX10_wrong) (as := [x1]) dX10_numberNow_56 rfl rfl rfl wq_859 wq_860 wq_861 wq_808 wq_857 hy_X10_wrong (by decide) ha hst (by omega) (by omega) hM
theorem sX10_numberNow_59 {a0 a1 a2 : Value} (hv : am_rf a0 = true) (h : am_R E d mX10_numberNow k n 60 [a0, a1, a2] (a0 :: st) S iv Q) : am_R E d mX10_numberNow k n 59 [a0, a1, a2] st S iv Q := am_aload_n dX10_numberNow_59 rfl rfl hv h
theorem sX10_numberNow_60 {ls : List Value} {a : Nat} (ha : S.1 a = some (.inl 10)) (h : am_R E d mX10_numberNow k n 63 ls (.int (iv a 25) :: st) S iv Q) : am_R E d mX10_numberNow k n 60 ls (.ref a :: st) S iv Q := am_getI (ci := 10) dX10_numberNow_60 rfl rfl (by decide) wq_838 uq_10 rfl ha h
theorem sX10_numberNow_63 {ls : List Value} {x : Int32} (kt : ¬ x = 0 → am_R E d mX10_numberNow k n 73 ls st S iv Q) (kf : x = 0 → am_R E d mX10_numberNow k n 66 ls st S iv Q) : am_R E d mX10_numberNow k n 63 ls (.int x :: st) S iv Q := am_if_ne dX10_numberNow_63 (by decide) kt kf
theorem sX10_numberNow_66 {a0 a1 a2 : Value} (hv : am_rf a0 = true) (h : am_R E d mX10_numberNow k n 67 [a0, a1, a2] (a0 :: st) S iv Q) : am_R E d mX10_numberNow k n 66 [a0, a1, a2] st S iv Q := am_aload_n dX10_numberNow_66 rfl rfl hv h
theorem sX10_numberNow_67 {ls : List Value} {a : Nat} (ha : S.1 a = some (.inl 10)) (h : am_R E d mX10_numberNow k n 70 ls (.int (iv a 22) :: st) S iv Q) : am_R E d mX10_numberNow k n 67 ls (.ref a :: st) S iv Q := am_getI (ci := 10) dX10_numberNow_67 rfl rfl (by decide) wq_830 uq_10 rfl ha h
theorem sX10_numberNow_70 {ls : List Value} (h : am_R E d mX10_numberNow k n 74 ls st S iv Q) : am_R E d mX10_numberNow k n 70 ls st S iv Q := am_goto dX10_numberNow_70 (by decide) h
theorem sX10_numberNow_73 {a0 a1 a2 : Value} (h : am_R E d mX10_numberNow k n 74 [a0, a1, a2] (.int 0 :: st) S iv Q) : am_R E d mX10_numberNow k n 73 [a0, a1, a2] st S iv Q := am_iconst dX10_numberNow_73 (by decide) h
theorem sX10_numberNow_74 {ls : List Value} {x : Int32} (h : Q (.inl (some (.int x))) S iv) : am_R E d mX10_numberNow k n 74 ls [.int x] S iv Q := am_ireturn dX10_numberNow_74 rfl h
theorem dX10_readNumber_0 : decode cX10_readNumber 0 = .ok (.aload_n 0, 1) := by decide +kernel
theorem dX10_readNumber_1 : decode cX10_readNumber 1 = .ok (.iload_n 1, 1) := by decide +kernel
theorem dX10_readNumber_2 : decode cX10_readNumber 2 = .ok (.iload_n 2, 1) := by decide +kernel
theorem dX10_readNumber_3 : decode cX10_readNumber 3 = .ok (.invokevirtual 219, 3) := by decide +kernel
theorem dX10_readNumber_6 : decode cX10_readNumber 6 = .ok (.istore_n 3, 1) := by decide +kernel
theorem dX10_readNumber_7 : decode cX10_readNumber 7 = .ok (.aload_n 0, 1) := by decide +kernel
theorem dX10_readNumber_8 : decode cX10_readNumber 8 = .ok (.getfield 192, 3) := by decide +kernel
theorem dX10_readNumber_11 : decode cX10_readNumber 11 = .ok (.ifCond .ne 7, 3) := by decide +kernel
theorem dX10_readNumber_14 : decode cX10_readNumber 14 = .ok (.aload_n 0, 1) := by decide +kernel
theorem dX10_readNumber_15 : decode cX10_readNumber 15 = .ok (.invokevirtual 209, 3) := by decide +kernel
theorem dX10_readNumber_18 : decode cX10_readNumber 18 = .ok (.iload_n 3, 1) := by decide +kernel
theorem dX10_readNumber_19 : decode cX10_readNumber 19 = .ok (.ireturn, 1) := by decide +kernel
theorem sX10_readNumber_0 {a0 a1 a2 a3 : Value} (hv : am_rf a0 = true) (h : am_R E d mX10_readNumber k n 1 [a0, a1, a2, a3] (a0 :: st) S iv Q) : am_R E d mX10_readNumber k n 0 [a0, a1, a2, a3] st S iv Q := am_aload_n dX10_readNumber_0 rfl rfl hv h
theorem sX10_readNumber_1 {a0 a2 a3 : Value} {x : Int32} (h : am_R E d mX10_readNumber k n 2 [a0, .int x, a2, a3] (.int x :: st) S iv Q) : am_R E d mX10_readNumber k n 1 [a0, .int x, a2, a3] st S iv Q := am_iload_n dX10_readNumber_1 rfl rfl h
theorem sX10_readNumber_2 {a0 a1 a3 : Value} {x : Int32} (h : am_R E d mX10_readNumber k n 3 [a0, a1, .int x, a3] (.int x :: st) S iv Q) : am_R E d mX10_readNumber k n 2 [a0, a1, .int x, a3] st S iv Q := am_iload_n dX10_readNumber_2 rfl rfl h
theorem sX10_readNumber_3 {ls : List Value} {x1 x2 : Value} {a : Nat} (ha : S.1 a = some (.inl 10)) (hst : (st.map fun v => v.category).sum ≤ 8) (hM : am_M E d mX10_numberNow 0 0 [.ref a, x1, x2] S iv (am_K3 E (d + 1) mX10_readNumber k n 3 ls st Q)) : am_R E (d + 1) mX10_readNumber k n 3 ls (x2 :: x1 :: .ref a :: st) S iv Q := am_cV (ci := 10) (M' := mX10_numberNow) (as := [x1, x2]) dX10_readNumber_3 rfl rfl rfl wq_864 wq_865 wq_866 wq_808 wq_862 hy_X10_numberNow (by decide) ha hst (by omega) (by omega) hM
theorem sX10_readNumber_3_k {ls : List Value} {x1 x2 : Value} {k' n' : Nat} {a : Nat} (ha : S.1 a = some (.inl 10)) (hst : (st.map fun v => v.category).sum ≤ 8) (hM : am_M E d mX10_numberNow k' n' [.ref a, x1, x2] S iv (am_K3 E (d + 1) mX10_readNumber k n 3 ls st Q)) : am_R E (d + 1) mX10_readNumber (k' + k) (n' + n) 3 ls (x2 :: x1 :: .ref a :: st) S iv Q := am_cV (ci := 10) (M' := mX10_numberNow) (as := [x1, x2]) dX10_readNumber_3 rfl rfl rfl wq_864 wq_865 wq_866 wq_808 wq_862 hy_X10_numberNow (by decide) ha hst (by omega) (by omega) hM
theorem sX10_readNumber_6 {a0 a1 a2 a3 : Value} {x : Int32} (h : am_R E d mX10_readNumber k n 7 [a0, a1, a2, .int x] st S iv Q) : am_R E d mX10_readNumber k n 6 [a0, a1, a2, a3] (.int x :: st) S iv Q := am_istore_n dX10_readNumber_6 rfl (by decide) h
theorem sX10_readNumber_7 {a0 a1 a2 a3 : Value} (hv : am_rf a0 = true) (h : am_R E d mX10_readNumber k n 8 [a0, a1, a2, a3] (a0 :: st) S iv Q) : am_R E d mX10_readNumber k n 7 [a0, a1, a2, a3] st S iv Q := am_aload_n dX10_readNumber_7 rfl rfl hv h
theorem sX10_readNumber_8 {ls : List Value} {a : Nat} (ha : S.1 a = some (.inl 10)) (h : am_R E d mX10_readNumber k n 11 ls (.int (iv a 25) :: st) S iv Q) : am_R E d mX10_readNumber k n 8 ls (.ref a :: st) S iv Q := am_getI (ci := 10) dX10_readNumber_8 rfl rfl (by decide) wq_838 uq_10 rfl ha h
theorem sX10_readNumber_11 {ls : List Value} {x : Int32} (kt : ¬ x = 0 → am_R E d mX10_readNumber k n 18 ls st S iv Q) (kf : x = 0 → am_R E d mX10_readNumber k n 14 ls st S iv Q) : am_R E d mX10_readNumber k n 11 ls (.int x :: st) S iv Q := am_if_ne dX10_readNumber_11 (by decide) kt kf
theorem sX10_readNumber_14 {a0 a1 a2 a3 : Value} (hv : am_rf a0 = true) (h : am_R E d mX10_readNumber k n 15 [a0, a1, a2, a3] (a0 :: st) S iv Q) : am_R E d mX10_readNumber k n 14 [a0, a1, a2, a3] st S iv Q := am_aload_n dX10_readNumber_14 rfl rfl hv h
theorem sX10_readNumber_15 {ls : List Value} {a : Nat} (ha : S.1 a = some (.inl 10)) (hst : (st.map fun v => v.category).sum ≤ 8) (hM : am_M E d mX10_stepOn 0 0 [.ref a] S iv (am_K3 E (d + 1) mX10_readNumber k n 15 ls st Q)) : am_R E (d + 1) mX10_readNumber k n 15 ls (.ref a :: st) S iv Q := am_cV (ci := 10) (M' := mX10_stepOn) (as := []) dX10_readNumber_15 rfl rfl rfl wq_849 wq_850 wq_851 wq_808 wq_847 hy_X10_stepOn (by decide) ha hst (by omega) (by omega) hM
theorem sX10_readNumber_15_k {ls : List Value} {k' n' : Nat} {a : Nat} (ha : S.1 a = some (.inl 10)) (hst : (st.map fun v => v.category).sum ≤ 8) (hM : am_M E d mX10_stepOn k' n' [.ref a] S iv (am_K3 E (d + 1) mX10_readNumber k n 15 ls st Q)) : am_R E (d + 1) mX10_readNumber (k' + k) (n' + n) 15 ls (.ref a :: st) S iv Q := am_cV (ci := 10) (M' := mX10_stepOn) (as := []) dX10_readNumber_15 rfl rfl rfl wq_849 wq_850 wq_851 wq_808 wq_847 hy_X10_stepOn (by decide) ha hst (by omega) (by omega) hM
theorem sX10_readNumber_18 {a0 a1 a2 : Value} {x : Int32} (h : am_R E d mX10_readNumber k n 19 [a0, a1, a2, .int x] (.int x :: st) S iv Q) : am_R E d mX10_readNumber k n 18 [a0, a1, a2, .int x] st S iv Q := am_iload_n dX10_readNumber_18 rfl rfl h
theorem sX10_readNumber_19 {ls : List Value} {x : Int32} (h : Q (.inl (some (.int x))) S iv) : am_R E d mX10_readNumber k n 19 ls [.int x] S iv Q := am_ireturn dX10_readNumber_19 rfl h
theorem dX10_lay_0 : decode cX10_lay 0 = .ok (.aload_n 0, 1) := by decide +kernel
theorem dX10_lay_1 : decode cX10_lay 1 = .ok (.getfield 192, 3) := by decide +kernel
theorem dX10_lay_4 : decode cX10_lay 4 = .ok (.ifCond .eq 4, 3) := by decide +kernel
theorem dX10_lay_7 : decode cX10_lay 7 = .ok (.return_, 1) := by decide +kernel
theorem dX10_lay_8 : decode cX10_lay 8 = .ok (.aload_n 0, 1) := by decide +kernel
theorem dX10_lay_9 : decode cX10_lay 9 = .ok (.getfield 77, 3) := by decide +kernel
theorem dX10_lay_12 : decode cX10_lay 12 = .ok (.sipush 700, 3) := by decide +kernel
theorem dX10_lay_15 : decode cX10_lay 15 = .ok (.aload_n 0, 1) := by decide +kernel
theorem dX10_lay_16 : decode cX10_lay 16 = .ok (.getfield 222, 3) := by decide +kernel
theorem dX10_lay_19 : decode cX10_lay 19 = .ok (.iadd, 1) := by decide +kernel
theorem dX10_lay_20 : decode cX10_lay 20 = .ok (.iload_n 1, 1) := by decide +kernel
theorem dX10_lay_21 : decode cX10_lay 21 = .ok (.iastore, 1) := by decide +kernel
theorem dX10_lay_22 : decode cX10_lay 22 = .ok (.aload_n 0, 1) := by decide +kernel
theorem dX10_lay_23 : decode cX10_lay 23 = .ok (.dup, 1) := by decide +kernel
theorem dX10_lay_24 : decode cX10_lay 24 = .ok (.getfield 222, 3) := by decide +kernel
theorem dX10_lay_27 : decode cX10_lay 27 = .ok (.iconst 1, 1) := by decide +kernel
theorem dX10_lay_28 : decode cX10_lay 28 = .ok (.iadd, 1) := by decide +kernel
theorem dX10_lay_29 : decode cX10_lay 29 = .ok (.putfield 222, 3) := by decide +kernel
theorem dX10_lay_32 : decode cX10_lay 32 = .ok (.return_, 1) := by decide +kernel
theorem sX10_lay_0 {a0 a1 : Value} (hv : am_rf a0 = true) (h : am_R E d mX10_lay k n 1 [a0, a1] (a0 :: st) S iv Q) : am_R E d mX10_lay k n 0 [a0, a1] st S iv Q := am_aload_n dX10_lay_0 rfl rfl hv h
theorem sX10_lay_1 {ls : List Value} {a : Nat} (ha : S.1 a = some (.inl 10)) (h : am_R E d mX10_lay k n 4 ls (.int (iv a 25) :: st) S iv Q) : am_R E d mX10_lay k n 1 ls (.ref a :: st) S iv Q := am_getI (ci := 10) dX10_lay_1 rfl rfl (by decide) wq_838 uq_10 rfl ha h
theorem sX10_lay_4 {ls : List Value} {x : Int32} (kt : x = 0 → am_R E d mX10_lay k n 8 ls st S iv Q) (kf : ¬ x = 0 → am_R E d mX10_lay k n 7 ls st S iv Q) : am_R E d mX10_lay k n 4 ls (.int x :: st) S iv Q := am_if_eq dX10_lay_4 (by decide) kt kf
theorem sX10_lay_7 {ls : List Value} (h : Q (.inl none) S iv) : am_R E d mX10_lay k n 7 ls [] S iv Q := am_return dX10_lay_7 rfl h
theorem sX10_lay_8 {a0 a1 : Value} (hv : am_rf a0 = true) (h : am_R E d mX10_lay k n 9 [a0, a1] (a0 :: st) S iv Q) : am_R E d mX10_lay k n 8 [a0, a1] st S iv Q := am_aload_n dX10_lay_8 rfl rfl hv h
theorem sX10_lay_9 {ls : List Value} {a b : Nat} (ha : S.1 a = some (.inl 10)) (hb : S.2.1 a 15 = some b) (h : am_R E d mX10_lay k n 12 ls (.ref b :: st) S iv Q) : am_R E d mX10_lay k n 9 ls (.ref a :: st) S iv Q := am_getR (ci := 10) dX10_lay_9 rfl rfl (by decide) wq_783 uq_10 rfl ha hb h
theorem sX10_lay_12 {a0 a1 : Value} (h : am_R E d mX10_lay k n 15 [a0, a1] (.int 700 :: st) S iv Q) : am_R E d mX10_lay k n 12 [a0, a1] st S iv Q := am_sipush dX10_lay_12 (by decide) h
theorem sX10_lay_15 {a0 a1 : Value} (hv : am_rf a0 = true) (h : am_R E d mX10_lay k n 16 [a0, a1] (a0 :: st) S iv Q) : am_R E d mX10_lay k n 15 [a0, a1] st S iv Q := am_aload_n dX10_lay_15 rfl rfl hv h
theorem sX10_lay_16 {ls : List Value} {a : Nat} (ha : S.1 a = some (.inl 10)) (h : am_R E d mX10_lay k n 19 ls (.int (iv a 28) :: st) S iv Q) : am_R E d mX10_lay k n 16 ls (.ref a :: st) S iv Q := am_getI (ci := 10) dX10_lay_16 rfl rfl (by decide) wq_867 uq_10 rfl ha h
theorem sX10_lay_19 {ls : List Value} {x y : Int32} (h : am_R E d mX10_lay k n 20 ls (.int (x + y) :: st) S iv Q) : am_R E d mX10_lay k n 19 ls (.int y :: .int x :: st) S iv Q := am_iadd dX10_lay_19 h
theorem sX10_lay_20 {a0 : Value} {x : Int32} (h : am_R E d mX10_lay k n 21 [a0, .int x] (.int x :: st) S iv Q) : am_R E d mX10_lay k n 20 [a0, .int x] st S iv Q := am_iload_n dX10_lay_20 rfl rfl h
theorem sX10_lay_21 {ls : List Value} {a m : Nat} {i x : Int32} (ha : S.1 a = some (.inr (.int, m))) (hi : vp_in i m) (h : am_R E d mX10_lay k n 22 ls st S (am_w iv a i.toNatClampNeg x) Q) : am_R E d mX10_lay k n 21 ls (.int x :: .int i :: .ref a :: st) S iv Q := am_iastore dX10_lay_21 ha hi h
theorem sX10_lay_22 {a0 a1 : Value} (hv : am_rf a0 = true) (h : am_R E d mX10_lay k n 23 [a0, a1] (a0 :: st) S iv Q) : am_R E d mX10_lay k n 22 [a0, a1] st S iv Q := am_aload_n dX10_lay_22 rfl rfl hv h
theorem sX10_lay_23 {ls : List Value} {x : Value} (hv : x.category = 1) (h : am_R E d mX10_lay k n 24 ls (x :: x :: st) S iv Q) : am_R E d mX10_lay k n 23 ls (x :: st) S iv Q := am_dup dX10_lay_23 hv h
theorem sX10_lay_24 {ls : List Value} {a : Nat} (ha : S.1 a = some (.inl 10)) (h : am_R E d mX10_lay k n 27 ls (.int (iv a 28) :: st) S iv Q) : am_R E d mX10_lay k n 24 ls (.ref a :: st) S iv Q := am_getI (ci := 10) dX10_lay_24 rfl rfl (by decide) wq_867 uq_10 rfl ha h
theorem sX10_lay_27 {a0 a1 : Value} (h : am_R E d mX10_lay k n 28 [a0, a1] (.int 1 :: st) S iv Q) : am_R E d mX10_lay k n 27 [a0, a1] st S iv Q := am_iconst dX10_lay_27 (by decide) h
theorem sX10_lay_28 {ls : List Value} {x y : Int32} (h : am_R E d mX10_lay k n 29 ls (.int (x + y) :: st) S iv Q) : am_R E d mX10_lay k n 28 ls (.int y :: .int x :: st) S iv Q := am_iadd dX10_lay_28 h
theorem sX10_lay_29 {ls : List Value} {a : Nat} {x : Int32} (ha : S.1 a = some (.inl 10)) (h : am_R E d mX10_lay k n 32 ls st S (am_w iv a 28 x) Q) : am_R E d mX10_lay k n 29 ls (.int x :: .ref a :: st) S iv Q := am_putI (ci := 10) dX10_lay_29 rfl rfl (by decide) wq_867 uq_10 tyX10_ok nmX10 (Or.inl rfl) rfl ha h
theorem sX10_lay_32 {ls : List Value} (h : Q (.inl none) S iv) : am_R E d mX10_lay k n 32 ls [] S iv Q := am_return dX10_lay_32 rfl h
theorem dX10_readPart_0 : decode cX10_readPart 0 = .ok (.aload_n 0, 1) := by decide +kernel
theorem dX10_readPart_1 : decode cX10_readPart 1 = .ok (.getfield 192, 3) := by decide +kernel
theorem dX10_readPart_4 : decode cX10_readPart 4 = .ok (.ifCond .eq 4, 3) := by decide +kernel
theorem dX10_readPart_7 : decode cX10_readPart 7 = .ok (.return_, 1) := by decide +kernel
theorem dX10_readPart_8 : decode cX10_readPart 8 = .ok (.aload_n 0, 1) := by decide +kernel
theorem dX10_readPart_9 : decode cX10_readPart 9 = .ok (.getfield 166, 3) := by decide +kernel
theorem dX10_readPart_12 : decode cX10_readPart 12 = .ok (.iconst 2, 1) := by decide +kernel
theorem dX10_readPart_13 : decode cX10_readPart 13 = .ok (.if_icmp .ne 16, 3) := by decide +kernel
theorem dX10_readPart_16 : decode cX10_readPart 16 = .ok (.aload_n 0, 1) := by decide +kernel
theorem dX10_readPart_17 : decode cX10_readPart 17 = .ok (.aload_n 0, 1) := by decide +kernel
theorem dX10_readPart_18 : decode cX10_readPart 18 = .ok (.iconst 0, 1) := by decide +kernel
theorem dX10_readPart_19 : decode cX10_readPart 19 = .ok (.sipush 9999, 3) := by decide +kernel
theorem dX10_readPart_22 : decode cX10_readPart 22 = .ok (.invokevirtual 225, 3) := by decide +kernel
theorem dX10_readPart_25 : decode cX10_readPart 25 = .ok (.invokevirtual 228, 3) := by decide +kernel
theorem dX10_readPart_28 : decode cX10_readPart 28 = .ok (.return_, 1) := by decide +kernel
theorem dX10_readPart_29 : decode cX10_readPart 29 = .ok (.aload_n 0, 1) := by decide +kernel
theorem dX10_readPart_30 : decode cX10_readPart 30 = .ok (.getfield 166, 3) := by decide +kernel
theorem dX10_readPart_33 : decode cX10_readPart 33 = .ok (.iconst 1, 1) := by decide +kernel
theorem dX10_readPart_34 : decode cX10_readPart 34 = .ok (.if_icmp .ne 41, 3) := by decide +kernel
theorem dX10_readPart_37 : decode cX10_readPart 37 = .ok (.aload_n 0, 1) := by decide +kernel
theorem dX10_readPart_38 : decode cX10_readPart 38 = .ok (.aload_n 0, 1) := by decide +kernel
theorem dX10_readPart_39 : decode cX10_readPart 39 = .ok (.getfield 46, 3) := by decide +kernel
theorem dX10_readPart_42 : decode cX10_readPart 42 = .ok (.invokevirtual 231, 3) := by decide +kernel
theorem dX10_readPart_45 : decode cX10_readPart 45 = .ok (.istore_n 2, 1) := by decide +kernel
theorem dX10_readPart_46 : decode cX10_readPart 46 = .ok (.iload_n 2, 1) := by decide +kernel
theorem dX10_readPart_47 : decode cX10_readPart 47 = .ok (.iconst (-1), 1) := by decide +kernel
theorem dX10_readPart_48 : decode cX10_readPart 48 = .ok (.if_icmp .ne 8, 3) := by decide +kernel
theorem dX10_readPart_51 : decode cX10_readPart 51 = .ok (.aload_n 0, 1) := by decide +kernel
theorem dX10_readPart_52 : decode cX10_readPart 52 = .ok (.iconst 3, 1) := by decide +kernel
theorem dX10_readPart_53 : decode cX10_readPart 53 = .ok (.invokevirtual 215, 3) := by decide +kernel
theorem dX10_readPart_56 : decode cX10_readPart 56 = .ok (.aload_n 0, 1) := by decide +kernel
theorem dX10_readPart_57 : decode cX10_readPart 57 = .ok (.iconst (-1), 1) := by decide +kernel
theorem dX10_readPart_58 : decode cX10_readPart 58 = .ok (.iload_n 2, 1) := by decide +kernel
theorem dX10_readPart_59 : decode cX10_readPart 59 = .ok (.isub, 1) := by decide +kernel
theorem dX10_readPart_60 : decode cX10_readPart 60 = .ok (.invokevirtual 228, 3) := by decide +kernel
theorem dX10_readPart_63 : decode cX10_readPart 63 = .ok (.aload_n 0, 1) := by decide +kernel
theorem dX10_readPart_64 : decode cX10_readPart 64 = .ok (.getfield 192, 3) := by decide +kernel
theorem dX10_readPart_67 : decode cX10_readPart 67 = .ok (.ifCond .ne 7, 3) := by decide +kernel
theorem dX10_readPart_70 : decode cX10_readPart 70 = .ok (.aload_n 0, 1) := by decide +kernel
theorem dX10_readPart_71 : decode cX10_readPart 71 = .ok (.invokevirtual 209, 3) := by decide +kernel
theorem dX10_readPart_74 : decode cX10_readPart 74 = .ok (.return_, 1) := by decide +kernel
theorem dX10_readPart_75 : decode cX10_readPart 75 = .ok (.aload_n 0, 1) := by decide +kernel
theorem dX10_readPart_76 : decode cX10_readPart 76 = .ok (.bipush 40, 2) := by decide +kernel
theorem dX10_readPart_78 : decode cX10_readPart 78 = .ok (.invokevirtual 235, 3) := by decide +kernel
theorem dX10_readPart_81 : decode cX10_readPart 81 = .ok (.aload_n 0, 1) := by decide +kernel
theorem dX10_readPart_82 : decode cX10_readPart 82 = .ok (.iload_n 1, 1) := by decide +kernel
theorem dX10_readPart_83 : decode cX10_readPart 83 = .ok (.iconst 1, 1) := by decide +kernel
theorem dX10_readPart_84 : decode cX10_readPart 84 = .ok (.iadd, 1) := by decide +kernel
theorem dX10_readPart_85 : decode cX10_readPart 85 = .ok (.invokevirtual 238, 3) := by decide +kernel
theorem dX10_readPart_88 : decode cX10_readPart 88 = .ok (.aload_n 0, 1) := by decide +kernel
theorem dX10_readPart_89 : decode cX10_readPart 89 = .ok (.bipush 41, 2) := by decide +kernel
theorem dX10_readPart_91 : decode cX10_readPart 91 = .ok (.invokevirtual 235, 3) := by decide +kernel
theorem dX10_readPart_94 : decode cX10_readPart 94 = .ok (.return_, 1) := by decide +kernel
theorem sX10_readPart_0 {a0 a1 a2 : Value} (hv : am_rf a0 = true) (h : am_R E d mX10_readPart k n 1 [a0, a1, a2] (a0 :: st) S iv Q) : am_R E d mX10_readPart k n 0 [a0, a1, a2] st S iv Q := am_aload_n dX10_readPart_0 rfl rfl hv h
theorem sX10_readPart_1 {ls : List Value} {a : Nat} (ha : S.1 a = some (.inl 10)) (h : am_R E d mX10_readPart k n 4 ls (.int (iv a 25) :: st) S iv Q) : am_R E d mX10_readPart k n 1 ls (.ref a :: st) S iv Q := am_getI (ci := 10) dX10_readPart_1 rfl rfl (by decide) wq_838 uq_10 rfl ha h
theorem sX10_readPart_4 {ls : List Value} {x : Int32} (kt : x = 0 → am_R E d mX10_readPart k n 8 ls st S iv Q) (kf : ¬ x = 0 → am_R E d mX10_readPart k n 7 ls st S iv Q) : am_R E d mX10_readPart k n 4 ls (.int x :: st) S iv Q := am_if_eq dX10_readPart_4 (by decide) kt kf
theorem sX10_readPart_7 {ls : List Value} (h : Q (.inl none) S iv) : am_R E d mX10_readPart k n 7 ls [] S iv Q := am_return dX10_readPart_7 rfl h
theorem sX10_readPart_8 {a0 a1 a2 : Value} (hv : am_rf a0 = true) (h : am_R E d mX10_readPart k n 9 [a0, a1, a2] (a0 :: st) S iv Q) : am_R E d mX10_readPart k n 8 [a0, a1, a2] st S iv Q := am_aload_n dX10_readPart_8 rfl rfl hv h
theorem sX10_readPart_9 {ls : List Value} {a : Nat} (ha : S.1 a = some (.inl 10)) (h : am_R E d mX10_readPart k n 12 ls (.int (iv a 21) :: st) S iv Q) : am_R E d mX10_readPart k n 9 ls (.ref a :: st) S iv Q := am_getI (ci := 10) dX10_readPart_9 rfl rfl (by decide) wq_821 uq_10 rfl ha h
theorem sX10_readPart_12 {a0 a1 a2 : Value} (h : am_R E d mX10_readPart k n 13 [a0, a1, a2] (.int 2 :: st) S iv Q) : am_R E d mX10_readPart k n 12 [a0, a1, a2] st S iv Q := am_iconst dX10_readPart_12 (by decide) h
theorem sX10_readPart_13 {ls : List Value} {x y : Int32} (kt : ¬ x = y → am_R E d mX10_readPart k n 29 ls st S iv Q) (kf : x = y → am_R E d mX10_readPart k n 16 ls st S iv Q) : am_R E d mX10_readPart k n 13 ls (.int y :: .int x :: st) S iv Q := am_icmp_ne dX10_readPart_13 (by decide) kt kf
theorem sX10_readPart_16 {a0 a1 a2 : Value} (hv : am_rf a0 = true) (h : am_R E d mX10_readPart k n 17 [a0, a1, a2] (a0 :: st) S iv Q) : am_R E d mX10_readPart k n 16 [a0, a1, a2] st S iv Q := am_aload_n dX10_readPart_16 rfl rfl hv h
theorem sX10_readPart_17 {a0 a1 a2 : Value} (hv : am_rf a0 = true) (h : am_R E d mX10_readPart k n 18 [a0, a1, a2] (a0 :: st) S iv Q) : am_R E d mX10_readPart k n 17 [a0, a1, a2] st S iv Q := am_aload_n dX10_readPart_17 rfl rfl hv h
theorem sX10_readPart_18 {a0 a1 a2 : Value} (h : am_R E d mX10_readPart k n 19 [a0, a1, a2] (.int 0 :: st) S iv Q) : am_R E d mX10_readPart k n 18 [a0, a1, a2] st S iv Q := am_iconst dX10_readPart_18 (by decide) h
theorem sX10_readPart_19 {a0 a1 a2 : Value} (h : am_R E d mX10_readPart k n 22 [a0, a1, a2] (.int 9999 :: st) S iv Q) : am_R E d mX10_readPart k n 19 [a0, a1, a2] st S iv Q := am_sipush dX10_readPart_19 (by decide) h
theorem sX10_readPart_22 {ls : List Value} {x1 x2 : Value} {a : Nat} (ha : S.1 a = some (.inl 10)) (hst : (st.map fun v => v.category).sum ≤ 8) (hM : am_M E d mX10_readNumber 0 0 [.ref a, x1, x2] S iv (am_K3 E (d + 1) mX10_readPart k n 22 ls st Q)) : am_R E (d + 1) mX10_readPart k n 22 ls (x2 :: x1 :: .ref a :: st) S iv Q := am_cV (ci := 10) (M' := mX10_readNumber) (as := [x1, x2]) dX10_readPart_22 rfl rfl rfl wq_870 wq_871 wq_872 wq_808 wq_868 hy_X10_readNumber (by decide) ha hst (by omega) (by omega) hM
theorem sX10_readPart_22_k {ls : List Value} {x1 x2 : Value} {k' n' : Nat} {a : Nat} (ha : S.1 a = some (.inl 10)) (hst : (st.map fun v => v.category).sum ≤ 8) (hM : am_M E d mX10_readNumber k' n' [.ref a, x1, x2] S iv (am_K3 E (d + 1) mX10_readPart k n 22 ls st Q)) : am_R E (d + 1) mX10_readPart (k' + k) (n' + n) 22 ls (x2 :: x1 :: .ref a :: st) S iv Q := am_cV (ci := 10) (M' := mX10_readNumber) (as := [x1, x2]) dX10_readPart_22 rfl rfl rfl wq_870 wq_871 wq_872 wq_808 wq_868 hy_X10_readNumber (by decide) ha hst (by omega) (by omega) hM
theorem sX10_readPart_25 {ls : List Value} {x1 : Value} {a : Nat} (ha : S.1 a = some (.inl 10)) (hst : (st.map fun v => v.category).sum ≤ 8) (hM : am_M E d mX10_lay 0 0 [.ref a, x1] S iv (am_K3 E (d + 1) mX10_readPart k n 25 ls st Q)) : am_R E (d + 1) mX10_readPart k n 25 ls (x1 :: .ref a :: st) S iv Q := am_cV (ci := 10) (M' := mX10_lay) (as := [x1]) dX10_readPart_25 rfl rfl rfl wq_875 wq_876 wq_877 wq_808 wq_873 hy_X10_lay (by decide) ha hst (by omega) (by omega) hM
theorem sX10_readPart_25_k {ls : List Value} {x1 : Value} {k' n' : Nat} {a : Nat} (ha : S.1 a = some (.inl 10)) (hst : (st.map fun v => v.category).sum ≤ 8) (hM : am_M E d mX10_lay k' n' [.ref a, x1] S iv (am_K3 E (d + 1) mX10_readPart k n 25 ls st Q)) : am_R E (d + 1) mX10_readPart (k' + k) (n' + n) 25 ls (x1 :: .ref a :: st) S iv Q := am_cV (ci := 10) (M' := mX10_lay) (as := [x1]) dX10_readPart_25 rfl rfl rfl wq_875 wq_876 wq_877 wq_808 wq_873 hy_X10_lay (by decide) ha hst (by omega) (by omega) hM
theorem sX10_readPart_28 {ls : List Value} (h : Q (.inl none) S iv) : am_R E d mX10_readPart k n 28 ls [] S iv Q := am_return dX10_readPart_28 rfl h
theorem sX10_readPart_29 {a0 a1 a2 : Value} (hv : am_rf a0 = true) (h : am_R E d mX10_readPart k n 30 [a0, a1, a2] (a0 :: st) S iv Q) : am_R E d mX10_readPart k n 29 [a0, a1, a2] st S iv Q := am_aload_n dX10_readPart_29 rfl rfl hv h
theorem sX10_readPart_30 {ls : List Value} {a : Nat} (ha : S.1 a = some (.inl 10)) (h : am_R E d mX10_readPart k n 33 ls (.int (iv a 21) :: st) S iv Q) : am_R E d mX10_readPart k n 30 ls (.ref a :: st) S iv Q := am_getI (ci := 10) dX10_readPart_30 rfl rfl (by decide) wq_821 uq_10 rfl ha h
theorem sX10_readPart_33 {a0 a1 a2 : Value} (h : am_R E d mX10_readPart k n 34 [a0, a1, a2] (.int 1 :: st) S iv Q) : am_R E d mX10_readPart k n 33 [a0, a1, a2] st S iv Q := am_iconst dX10_readPart_33 (by decide) h
theorem sX10_readPart_34 {ls : List Value} {x y : Int32} (kt : ¬ x = y → am_R E d mX10_readPart k n 75 ls st S iv Q) (kf : x = y → am_R E d mX10_readPart k n 37 ls st S iv Q) : am_R E d mX10_readPart k n 34 ls (.int y :: .int x :: st) S iv Q := am_icmp_ne dX10_readPart_34 (by decide) kt kf
theorem sX10_readPart_37 {a0 a1 a2 : Value} (hv : am_rf a0 = true) (h : am_R E d mX10_readPart k n 38 [a0, a1, a2] (a0 :: st) S iv Q) : am_R E d mX10_readPart k n 37 [a0, a1, a2] st S iv Q := am_aload_n dX10_readPart_37 rfl rfl hv h
theorem sX10_readPart_38 {a0 a1 a2 : Value} (hv : am_rf a0 = true) (h : am_R E d mX10_readPart k n 39 [a0, a1, a2] (a0 :: st) S iv Q) : am_R E d mX10_readPart k n 38 [a0, a1, a2] st S iv Q := am_aload_n dX10_readPart_38 rfl rfl hv h
theorem sX10_readPart_39 {ls : List Value} {a b : Nat} (ha : S.1 a = some (.inl 10)) (hb : S.2.1 a 2 = some b) (h : am_R E d mX10_readPart k n 42 ls (.ref b :: st) S iv Q) : am_R E d mX10_readPart k n 39 ls (.ref a :: st) S iv Q := am_getR (ci := 10) dX10_readPart_39 rfl rfl (by decide) wq_771 uq_10 rfl ha hb h
theorem sX10_readPart_42 {ls : List Value} {x1 : Value} {a : Nat} (ha : S.1 a = some (.inl 10)) (hst : (st.map fun v => v.category).sum ≤ 8) (hM : am_M E d mX10_which 0 0 [.ref a, x1] S iv (am_K3 E (d + 1) mX10_readPart k n 42 ls st Q)) : am_R E (d + 1) mX10_readPart k n 42 ls (x1 :: .ref a :: st) S iv Q := am_cV (ci := 10) (M' := mX10_which) (as := [x1]) dX10_readPart_42 rfl rfl rfl wq_880 wq_881 wq_882 wq_808 wq_878 hy_X10_which (by decide) ha hst (by omega) (by omega) hM
theorem sX10_readPart_42_k {ls : List Value} {x1 : Value} {k' n' : Nat} {a : Nat} (ha : S.1 a = some (.inl 10)) (hst : (st.map fun v => v.category).sum ≤ 8) (hM : am_M E d mX10_which k' n' [.ref a, x1] S iv (am_K3 E (d + 1) mX10_readPart k n 42 ls st Q)) : am_R E (d + 1) mX10_readPart (k' + k) (n' + n) 42 ls (x1 :: .ref a :: st) S iv Q := am_cV (ci := 10) (M' := mX10_which) (as := [x1]) dX10_readPart_42 rfl rfl rfl wq_880 wq_881 wq_882 wq_808 wq_878 hy_X10_which (by decide) ha hst (by omega) (by omega) hM
theorem sX10_readPart_45 {a0 a1 a2 : Value} {x : Int32} (h : am_R E d mX10_readPart k n 46 [a0, a1, .int x] st S iv Q) : am_R E d mX10_readPart k n 45 [a0, a1, a2] (.int x :: st) S iv Q := am_istore_n dX10_readPart_45 rfl (by decide) h
theorem sX10_readPart_46 {a0 a1 : Value} {x : Int32} (h : am_R E d mX10_readPart k n 47 [a0, a1, .int x] (.int x :: st) S iv Q) : am_R E d mX10_readPart k n 46 [a0, a1, .int x] st S iv Q := am_iload_n dX10_readPart_46 rfl rfl h
theorem sX10_readPart_47 {a0 a1 a2 : Value} (h : am_R E d mX10_readPart k n 48 [a0, a1, a2] (.int (-1) :: st) S iv Q) : am_R E d mX10_readPart k n 47 [a0, a1, a2] st S iv Q := am_iconst dX10_readPart_47 (by decide) h
theorem sX10_readPart_48 {ls : List Value} {x y : Int32} (kt : ¬ x = y → am_R E d mX10_readPart k n 56 ls st S iv Q) (kf : x = y → am_R E d mX10_readPart k n 51 ls st S iv Q) : am_R E d mX10_readPart k n 48 ls (.int y :: .int x :: st) S iv Q := am_icmp_ne dX10_readPart_48 (by decide) kt kf
theorem sX10_readPart_51 {a0 a1 a2 : Value} (hv : am_rf a0 = true) (h : am_R E d mX10_readPart k n 52 [a0, a1, a2] (a0 :: st) S iv Q) : am_R E d mX10_readPart k n 51 [a0, a1, a2] st S iv Q := am_aload_n dX10_readPart_51 rfl rfl hv h
theorem sX10_readPart_52 {a0 a1 a2 : Value} (h : am_R E d mX10_readPart k n 53 [a0, a1, a2] (.int 3 :: st) S iv Q) : am_R E d mX10_readPart k n 52 [a0, a1, a2] st S iv Q := am_iconst dX10_readPart_52 (by decide) h
theorem sX10_readPart_53 {ls : List Value} {x1 : Value} {a : Nat} (ha : S.1 a = some (.inl 10)) (hst : (st.map fun v => v.category).sum ≤ 8) (hM : am_M E d mX10_wrong 0 0 [.ref a, x1] S iv (am_K3 E (d + 1) mX10_readPart k n 53 ls st Q)) : am_R E (d + 1) mX10_readPart k n 53 ls (x1 :: .ref a :: st) S iv Q := am_cV (ci := 10) (M' := mX10_wrong) (as := [x1]) dX10_readPart_53 rfl rfl rfl wq_859 wq_860 wq_861 wq_808 wq_857 hy_X10_wrong (by decide) ha hst (by omega) (by omega) hM
theorem sX10_readPart_53_k {ls : List Value} {x1 : Value} {k' n' : Nat} {a : Nat} (ha : S.1 a = some (.inl 10)) (hst : (st.map fun v => v.category).sum ≤ 8) (hM : am_M E d mX10_wrong k' n' [.ref a, x1] S iv (am_K3 E (d + 1) mX10_readPart k n 53 ls st Q)) : am_R E (d + 1) mX10_readPart (k' + k) (n' + n) 53 ls (x1 :: .ref a :: st) S iv Q := am_cV (ci := 10) (M' := mX10_wrong) (as := [x1]) dX10_readPart_53 rfl rfl rfl wq_859 wq_860 wq_861 wq_808 wq_857 hy_X10_wrong (by decide) ha hst (by omega) (by omega) hM
theorem sX10_readPart_56 {a0 a1 a2 : Value} (hv : am_rf a0 = true) (h : am_R E d mX10_readPart k n 57 [a0, a1, a2] (a0 :: st) S iv Q) : am_R E d mX10_readPart k n 56 [a0, a1, a2] st S iv Q := am_aload_n dX10_readPart_56 rfl rfl hv h
theorem sX10_readPart_57 {a0 a1 a2 : Value} (h : am_R E d mX10_readPart k n 58 [a0, a1, a2] (.int (-1) :: st) S iv Q) : am_R E d mX10_readPart k n 57 [a0, a1, a2] st S iv Q := am_iconst dX10_readPart_57 (by decide) h
theorem sX10_readPart_58 {a0 a1 : Value} {x : Int32} (h : am_R E d mX10_readPart k n 59 [a0, a1, .int x] (.int x :: st) S iv Q) : am_R E d mX10_readPart k n 58 [a0, a1, .int x] st S iv Q := am_iload_n dX10_readPart_58 rfl rfl h
theorem sX10_readPart_59 {ls : List Value} {x y : Int32} (h : am_R E d mX10_readPart k n 60 ls (.int (x - y) :: st) S iv Q) : am_R E d mX10_readPart k n 59 ls (.int y :: .int x :: st) S iv Q := am_isub dX10_readPart_59 h
theorem sX10_readPart_60 {ls : List Value} {x1 : Value} {a : Nat} (ha : S.1 a = some (.inl 10)) (hst : (st.map fun v => v.category).sum ≤ 8) (hM : am_M E d mX10_lay 0 0 [.ref a, x1] S iv (am_K3 E (d + 1) mX10_readPart k n 60 ls st Q)) : am_R E (d + 1) mX10_readPart k n 60 ls (x1 :: .ref a :: st) S iv Q := am_cV (ci := 10) (M' := mX10_lay) (as := [x1]) dX10_readPart_60 rfl rfl rfl wq_875 wq_876 wq_877 wq_808 wq_873 hy_X10_lay (by decide) ha hst (by omega) (by omega) hM
theorem sX10_readPart_60_k {ls : List Value} {x1 : Value} {k' n' : Nat} {a : Nat} (ha : S.1 a = some (.inl 10)) (hst : (st.map fun v => v.category).sum ≤ 8) (hM : am_M E d mX10_lay k' n' [.ref a, x1] S iv (am_K3 E (d + 1) mX10_readPart k n 60 ls st Q)) : am_R E (d + 1) mX10_readPart (k' + k) (n' + n) 60 ls (x1 :: .ref a :: st) S iv Q := am_cV (ci := 10) (M' := mX10_lay) (as := [x1]) dX10_readPart_60 rfl rfl rfl wq_875 wq_876 wq_877 wq_808 wq_873 hy_X10_lay (by decide) ha hst (by omega) (by omega) hM
theorem sX10_readPart_63 {a0 a1 a2 : Value} (hv : am_rf a0 = true) (h : am_R E d mX10_readPart k n 64 [a0, a1, a2] (a0 :: st) S iv Q) : am_R E d mX10_readPart k n 63 [a0, a1, a2] st S iv Q := am_aload_n dX10_readPart_63 rfl rfl hv h
theorem sX10_readPart_64 {ls : List Value} {a : Nat} (ha : S.1 a = some (.inl 10)) (h : am_R E d mX10_readPart k n 67 ls (.int (iv a 25) :: st) S iv Q) : am_R E d mX10_readPart k n 64 ls (.ref a :: st) S iv Q := am_getI (ci := 10) dX10_readPart_64 rfl rfl (by decide) wq_838 uq_10 rfl ha h
theorem sX10_readPart_67 {ls : List Value} {x : Int32} (kt : ¬ x = 0 → am_R E d mX10_readPart k n 74 ls st S iv Q) (kf : x = 0 → am_R E d mX10_readPart k n 70 ls st S iv Q) : am_R E d mX10_readPart k n 67 ls (.int x :: st) S iv Q := am_if_ne dX10_readPart_67 (by decide) kt kf
theorem sX10_readPart_70 {a0 a1 a2 : Value} (hv : am_rf a0 = true) (h : am_R E d mX10_readPart k n 71 [a0, a1, a2] (a0 :: st) S iv Q) : am_R E d mX10_readPart k n 70 [a0, a1, a2] st S iv Q := am_aload_n dX10_readPart_70 rfl rfl hv h
theorem sX10_readPart_71 {ls : List Value} {a : Nat} (ha : S.1 a = some (.inl 10)) (hst : (st.map fun v => v.category).sum ≤ 8) (hM : am_M E d mX10_stepOn 0 0 [.ref a] S iv (am_K3 E (d + 1) mX10_readPart k n 71 ls st Q)) : am_R E (d + 1) mX10_readPart k n 71 ls (.ref a :: st) S iv Q := am_cV (ci := 10) (M' := mX10_stepOn) (as := []) dX10_readPart_71 rfl rfl rfl wq_849 wq_850 wq_851 wq_808 wq_847 hy_X10_stepOn (by decide) ha hst (by omega) (by omega) hM
theorem sX10_readPart_71_k {ls : List Value} {k' n' : Nat} {a : Nat} (ha : S.1 a = some (.inl 10)) (hst : (st.map fun v => v.category).sum ≤ 8) (hM : am_M E d mX10_stepOn k' n' [.ref a] S iv (am_K3 E (d + 1) mX10_readPart k n 71 ls st Q)) : am_R E (d + 1) mX10_readPart (k' + k) (n' + n) 71 ls (.ref a :: st) S iv Q := am_cV (ci := 10) (M' := mX10_stepOn) (as := []) dX10_readPart_71 rfl rfl rfl wq_849 wq_850 wq_851 wq_808 wq_847 hy_X10_stepOn (by decide) ha hst (by omega) (by omega) hM
theorem sX10_readPart_74 {ls : List Value} (h : Q (.inl none) S iv) : am_R E d mX10_readPart k n 74 ls [] S iv Q := am_return dX10_readPart_74 rfl h
theorem sX10_readPart_75 {a0 a1 a2 : Value} (hv : am_rf a0 = true) (h : am_R E d mX10_readPart k n 76 [a0, a1, a2] (a0 :: st) S iv Q) : am_R E d mX10_readPart k n 75 [a0, a1, a2] st S iv Q := am_aload_n dX10_readPart_75 rfl rfl hv h
theorem sX10_readPart_76 {a0 a1 a2 : Value} (h : am_R E d mX10_readPart k n 78 [a0, a1, a2] (.int 40 :: st) S iv Q) : am_R E d mX10_readPart k n 76 [a0, a1, a2] st S iv Q := am_bipush dX10_readPart_76 (by decide) h
theorem sX10_readPart_78 {ls : List Value} {x1 : Value} {a : Nat} (ha : S.1 a = some (.inl 10)) (hst : (st.map fun v => v.category).sum ≤ 8) (hM : am_M E d mX10_mark 0 0 [.ref a, x1] S iv (am_K3 E (d + 1) mX10_readPart k n 78 ls st Q)) : am_R E (d + 1) mX10_readPart k n 78 ls (x1 :: .ref a :: st) S iv Q := am_cV (ci := 10) (M' := mX10_mark) (as := [x1]) dX10_readPart_78 rfl rfl rfl wq_885 wq_886 wq_887 wq_808 wq_883 hy_X10_mark (by decide) ha hst (by omega) (by omega) hM
theorem sX10_readPart_78_k {ls : List Value} {x1 : Value} {k' n' : Nat} {a : Nat} (ha : S.1 a = some (.inl 10)) (hst : (st.map fun v => v.category).sum ≤ 8) (hM : am_M E d mX10_mark k' n' [.ref a, x1] S iv (am_K3 E (d + 1) mX10_readPart k n 78 ls st Q)) : am_R E (d + 1) mX10_readPart (k' + k) (n' + n) 78 ls (x1 :: .ref a :: st) S iv Q := am_cV (ci := 10) (M' := mX10_mark) (as := [x1]) dX10_readPart_78 rfl rfl rfl wq_885 wq_886 wq_887 wq_808 wq_883 hy_X10_mark (by decide) ha hst (by omega) (by omega) hM
theorem sX10_readPart_81 {a0 a1 a2 : Value} (hv : am_rf a0 = true) (h : am_R E d mX10_readPart k n 82 [a0, a1, a2] (a0 :: st) S iv Q) : am_R E d mX10_readPart k n 81 [a0, a1, a2] st S iv Q := am_aload_n dX10_readPart_81 rfl rfl hv h
theorem sX10_readPart_82 {a0 a2 : Value} {x : Int32} (h : am_R E d mX10_readPart k n 83 [a0, .int x, a2] (.int x :: st) S iv Q) : am_R E d mX10_readPart k n 82 [a0, .int x, a2] st S iv Q := am_iload_n dX10_readPart_82 rfl rfl h
theorem sX10_readPart_83 {a0 a1 a2 : Value} (h : am_R E d mX10_readPart k n 84 [a0, a1, a2] (.int 1 :: st) S iv Q) : am_R E d mX10_readPart k n 83 [a0, a1, a2] st S iv Q := am_iconst dX10_readPart_83 (by decide) h
theorem sX10_readPart_84 {ls : List Value} {x y : Int32} (h : am_R E d mX10_readPart k n 85 ls (.int (x + y) :: st) S iv Q) : am_R E d mX10_readPart k n 84 ls (.int y :: .int x :: st) S iv Q := am_iadd dX10_readPart_84 h
theorem sX10_readPart_85 {ls : List Value} {x1 : Value} {a : Nat} (ha : S.1 a = some (.inl 10)) (hst : (st.map fun v => v.category).sum ≤ 8) (hM : am_M E d mX10_readExpression 0 0 [.ref a, x1] S iv (am_K3 E (d + 1) mX10_readPart k n 85 ls st Q)) : am_R E (d + 1) mX10_readPart k n 85 ls (x1 :: .ref a :: st) S iv Q := am_cV (ci := 10) (M' := mX10_readExpression) (as := [x1]) dX10_readPart_85 rfl rfl rfl wq_890 wq_891 wq_892 wq_808 wq_888 hy_X10_readExpression (by decide) ha hst (by omega) (by omega) hM
theorem sX10_readPart_85_k {ls : List Value} {x1 : Value} {k' n' : Nat} {a : Nat} (ha : S.1 a = some (.inl 10)) (hst : (st.map fun v => v.category).sum ≤ 8) (hM : am_M E d mX10_readExpression k' n' [.ref a, x1] S iv (am_K3 E (d + 1) mX10_readPart k n 85 ls st Q)) : am_R E (d + 1) mX10_readPart (k' + k) (n' + n) 85 ls (x1 :: .ref a :: st) S iv Q := am_cV (ci := 10) (M' := mX10_readExpression) (as := [x1]) dX10_readPart_85 rfl rfl rfl wq_890 wq_891 wq_892 wq_808 wq_888 hy_X10_readExpression (by decide) ha hst (by omega) (by omega) hM
theorem sX10_readPart_88 {a0 a1 a2 : Value} (hv : am_rf a0 = true) (h : am_R E d mX10_readPart k n 89 [a0, a1, a2] (a0 :: st) S iv Q) : am_R E d mX10_readPart k n 88 [a0, a1, a2] st S iv Q := am_aload_n dX10_readPart_88 rfl rfl hv h
theorem sX10_readPart_89 {a0 a1 a2 : Value} (h : am_R E d mX10_readPart k n 91 [a0, a1, a2] (.int 41 :: st) S iv Q) : am_R E d mX10_readPart k n 89 [a0, a1, a2] st S iv Q := am_bipush dX10_readPart_89 (by decide) h
theorem sX10_readPart_91 {ls : List Value} {x1 : Value} {a : Nat} (ha : S.1 a = some (.inl 10)) (hst : (st.map fun v => v.category).sum ≤ 8) (hM : am_M E d mX10_mark 0 0 [.ref a, x1] S iv (am_K3 E (d + 1) mX10_readPart k n 91 ls st Q)) : am_R E (d + 1) mX10_readPart k n 91 ls (x1 :: .ref a :: st) S iv Q := am_cV (ci := 10) (M' := mX10_mark) (as := [x1]) dX10_readPart_91 rfl rfl rfl wq_885 wq_886 wq_887 wq_808 wq_883 hy_X10_mark (by decide) ha hst (by omega) (by omega) hM
theorem sX10_readPart_91_k {ls : List Value} {x1 : Value} {k' n' : Nat} {a : Nat} (ha : S.1 a = some (.inl 10)) (hst : (st.map fun v => v.category).sum ≤ 8) (hM : am_M E d mX10_mark k' n' [.ref a, x1] S iv (am_K3 E (d + 1) mX10_readPart k n 91 ls st Q)) : am_R E (d + 1) mX10_readPart (k' + k) (n' + n) 91 ls (x1 :: .ref a :: st) S iv Q := am_cV (ci := 10) (M' := mX10_mark) (as := [x1]) dX10_readPart_91 rfl rfl rfl wq_885 wq_886 wq_887 wq_808 wq_883 hy_X10_mark (by decide) ha hst (by omega) (by omega) hM
theorem sX10_readPart_94 {ls : List Value} (h : Q (.inl none) S iv) : am_R E d mX10_readPart k n 94 ls [] S iv Q := am_return dX10_readPart_94 rfl h
theorem dX10_readProduct_0 : decode cX10_readProduct 0 = .ok (.aload_n 0, 1) := by decide +kernel
theorem dX10_readProduct_1 : decode cX10_readProduct 1 = .ok (.iload_n 1, 1) := by decide +kernel
theorem dX10_readProduct_2 : decode cX10_readProduct 2 = .ok (.invokevirtual 241, 3) := by decide +kernel
theorem dX10_readProduct_5 : decode cX10_readProduct 5 = .ok (.aload_n 0, 1) := by decide +kernel
theorem dX10_readProduct_6 : decode cX10_readProduct 6 = .ok (.bipush 42, 2) := by decide +kernel
theorem dX10_readProduct_8 : decode cX10_readProduct 8 = .ok (.invokevirtual 212, 3) := by decide +kernel
theorem dX10_readProduct_11 : decode cX10_readProduct 11 = .ok (.ifCond .ne 12, 3) := by decide +kernel
theorem dX10_readProduct_14 : decode cX10_readProduct 14 = .ok (.aload_n 0, 1) := by decide +kernel
theorem dX10_readProduct_15 : decode cX10_readProduct 15 = .ok (.bipush 47, 2) := by decide +kernel
theorem dX10_readProduct_17 : decode cX10_readProduct 17 = .ok (.invokevirtual 212, 3) := by decide +kernel
theorem dX10_readProduct_20 : decode cX10_readProduct 20 = .ok (.ifCond .eq 37, 3) := by decide +kernel
theorem dX10_readProduct_23 : decode cX10_readProduct 23 = .ok (.aload_n 0, 1) := by decide +kernel
theorem dX10_readProduct_24 : decode cX10_readProduct 24 = .ok (.bipush 42, 2) := by decide +kernel
theorem dX10_readProduct_26 : decode cX10_readProduct 26 = .ok (.invokevirtual 212, 3) := by decide +kernel
theorem dX10_readProduct_29 : decode cX10_readProduct 29 = .ok (.ifCond .eq 8, 3) := by decide +kernel
theorem dX10_readProduct_32 : decode cX10_readProduct 32 = .ok (.bipush (-22), 2) := by decide +kernel
theorem dX10_readProduct_34 : decode cX10_readProduct 34 = .ok (.goto 5, 3) := by decide +kernel
theorem dX10_readProduct_37 : decode cX10_readProduct 37 = .ok (.bipush (-23), 2) := by decide +kernel
theorem dX10_readProduct_39 : decode cX10_readProduct 39 = .ok (.istore_n 2, 1) := by decide +kernel
theorem dX10_readProduct_40 : decode cX10_readProduct 40 = .ok (.aload_n 0, 1) := by decide +kernel
theorem dX10_readProduct_41 : decode cX10_readProduct 41 = .ok (.invokevirtual 209, 3) := by decide +kernel
theorem dX10_readProduct_44 : decode cX10_readProduct 44 = .ok (.aload_n 0, 1) := by decide +kernel
theorem dX10_readProduct_45 : decode cX10_readProduct 45 = .ok (.iload_n 1, 1) := by decide +kernel
theorem dX10_readProduct_46 : decode cX10_readProduct 46 = .ok (.invokevirtual 241, 3) := by decide +kernel
theorem dX10_readProduct_49 : decode cX10_readProduct 49 = .ok (.aload_n 0, 1) := by decide +kernel
theorem dX10_readProduct_50 : decode cX10_readProduct 50 = .ok (.iload_n 2, 1) := by decide +kernel
theorem dX10_readProduct_51 : decode cX10_readProduct 51 = .ok (.invokevirtual 228, 3) := by decide +kernel
theorem dX10_readProduct_54 : decode cX10_readProduct 54 = .ok (.goto (-49), 3) := by decide +kernel
theorem dX10_readProduct_57 : decode cX10_readProduct 57 = .ok (.return_, 1) := by decide +kernel
theorem sX10_readProduct_0 {a0 a1 a2 : Value} (hv : am_rf a0 = true) (h : am_R E d mX10_readProduct k n 1 [a0, a1, a2] (a0 :: st) S iv Q) : am_R E d mX10_readProduct k n 0 [a0, a1, a2] st S iv Q := am_aload_n dX10_readProduct_0 rfl rfl hv h
theorem sX10_readProduct_1 {a0 a2 : Value} {x : Int32} (h : am_R E d mX10_readProduct k n 2 [a0, .int x, a2] (.int x :: st) S iv Q) : am_R E d mX10_readProduct k n 1 [a0, .int x, a2] st S iv Q := am_iload_n dX10_readProduct_1 rfl rfl h
theorem sX10_readProduct_2 {ls : List Value} {x1 : Value} {a : Nat} (ha : S.1 a = some (.inl 10)) (hst : (st.map fun v => v.category).sum ≤ 8) (hM : am_M E d mX10_readPart 0 0 [.ref a, x1] S iv (am_K3 E (d + 1) mX10_readProduct k n 2 ls st Q)) : am_R E (d + 1) mX10_readProduct k n 2 ls (x1 :: .ref a :: st) S iv Q := am_cV (ci := 10) (M' := mX10_readPart) (as := [x1]) dX10_readProduct_2 rfl rfl rfl wq_895 wq_896 wq_897 wq_808 wq_893 hy_X10_readPart (by decide) ha hst (by omega) (by omega) hM
theorem sX10_readProduct_2_k {ls : List Value} {x1 : Value} {k' n' : Nat} {a : Nat} (ha : S.1 a = some (.inl 10)) (hst : (st.map fun v => v.category).sum ≤ 8) (hM : am_M E d mX10_readPart k' n' [.ref a, x1] S iv (am_K3 E (d + 1) mX10_readProduct k n 2 ls st Q)) : am_R E (d + 1) mX10_readProduct (k' + k) (n' + n) 2 ls (x1 :: .ref a :: st) S iv Q := am_cV (ci := 10) (M' := mX10_readPart) (as := [x1]) dX10_readProduct_2 rfl rfl rfl wq_895 wq_896 wq_897 wq_808 wq_893 hy_X10_readPart (by decide) ha hst (by omega) (by omega) hM
theorem sX10_readProduct_5 {a0 a1 a2 : Value} (hv : am_rf a0 = true) (h : am_R E d mX10_readProduct k n 6 [a0, a1, a2] (a0 :: st) S iv Q) : am_R E d mX10_readProduct k n 5 [a0, a1, a2] st S iv Q := am_aload_n dX10_readProduct_5 rfl rfl hv h
theorem sX10_readProduct_6 {a0 a1 a2 : Value} (h : am_R E d mX10_readProduct k n 8 [a0, a1, a2] (.int 42 :: st) S iv Q) : am_R E d mX10_readProduct k n 6 [a0, a1, a2] st S iv Q := am_bipush dX10_readProduct_6 (by decide) h
theorem sX10_readProduct_8 {ls : List Value} {x1 : Value} {a : Nat} (ha : S.1 a = some (.inl 10)) (hst : (st.map fun v => v.category).sum ≤ 8) (hM : am_M E d mX10_isMarked 0 0 [.ref a, x1] S iv (am_K3 E (d + 1) mX10_readProduct k n 8 ls st Q)) : am_R E (d + 1) mX10_readProduct k n 8 ls (x1 :: .ref a :: st) S iv Q := am_cV (ci := 10) (M' := mX10_isMarked) (as := [x1]) dX10_readProduct_8 rfl rfl rfl wq_854 wq_855 wq_856 wq_808 wq_852 hy_X10_isMarked (by decide) ha hst (by omega) (by omega) hM
theorem sX10_readProduct_8_k {ls : List Value} {x1 : Value} {k' n' : Nat} {a : Nat} (ha : S.1 a = some (.inl 10)) (hst : (st.map fun v => v.category).sum ≤ 8) (hM : am_M E d mX10_isMarked k' n' [.ref a, x1] S iv (am_K3 E (d + 1) mX10_readProduct k n 8 ls st Q)) : am_R E (d + 1) mX10_readProduct (k' + k) (n' + n) 8 ls (x1 :: .ref a :: st) S iv Q := am_cV (ci := 10) (M' := mX10_isMarked) (as := [x1]) dX10_readProduct_8 rfl rfl rfl wq_854 wq_855 wq_856 wq_808 wq_852 hy_X10_isMarked (by decide) ha hst (by omega) (by omega) hM
theorem sX10_readProduct_11 {ls : List Value} {x : Int32} (kt : ¬ x = 0 → am_R E d mX10_readProduct k n 23 ls st S iv Q) (kf : x = 0 → am_R E d mX10_readProduct k n 14 ls st S iv Q) : am_R E d mX10_readProduct k n 11 ls (.int x :: st) S iv Q := am_if_ne dX10_readProduct_11 (by decide) kt kf
theorem sX10_readProduct_14 {a0 a1 a2 : Value} (hv : am_rf a0 = true) (h : am_R E d mX10_readProduct k n 15 [a0, a1, a2] (a0 :: st) S iv Q) : am_R E d mX10_readProduct k n 14 [a0, a1, a2] st S iv Q := am_aload_n dX10_readProduct_14 rfl rfl hv h
theorem sX10_readProduct_15 {a0 a1 a2 : Value} (h : am_R E d mX10_readProduct k n 17 [a0, a1, a2] (.int 47 :: st) S iv Q) : am_R E d mX10_readProduct k n 15 [a0, a1, a2] st S iv Q := am_bipush dX10_readProduct_15 (by decide) h
theorem sX10_readProduct_17 {ls : List Value} {x1 : Value} {a : Nat} (ha : S.1 a = some (.inl 10)) (hst : (st.map fun v => v.category).sum ≤ 8) (hM : am_M E d mX10_isMarked 0 0 [.ref a, x1] S iv (am_K3 E (d + 1) mX10_readProduct k n 17 ls st Q)) : am_R E (d + 1) mX10_readProduct k n 17 ls (x1 :: .ref a :: st) S iv Q := am_cV (ci := 10) (M' := mX10_isMarked) (as := [x1]) dX10_readProduct_17 rfl rfl rfl wq_854 wq_855 wq_856 wq_808 wq_852 hy_X10_isMarked (by decide) ha hst (by omega) (by omega) hM
theorem sX10_readProduct_17_k {ls : List Value} {x1 : Value} {k' n' : Nat} {a : Nat} (ha : S.1 a = some (.inl 10)) (hst : (st.map fun v => v.category).sum ≤ 8) (hM : am_M E d mX10_isMarked k' n' [.ref a, x1] S iv (am_K3 E (d + 1) mX10_readProduct k n 17 ls st Q)) : am_R E (d + 1) mX10_readProduct (k' + k) (n' + n) 17 ls (x1 :: .ref a :: st) S iv Q := am_cV (ci := 10) (M' := mX10_isMarked) (as := [x1]) dX10_readProduct_17 rfl rfl rfl wq_854 wq_855 wq_856 wq_808 wq_852 hy_X10_isMarked (by decide) ha hst (by omega) (by omega) hM
theorem sX10_readProduct_20 {ls : List Value} {x : Int32} (kt : x = 0 → am_R E d mX10_readProduct k n 57 ls st S iv Q) (kf : ¬ x = 0 → am_R E d mX10_readProduct k n 23 ls st S iv Q) : am_R E d mX10_readProduct k n 20 ls (.int x :: st) S iv Q := am_if_eq dX10_readProduct_20 (by decide) kt kf
theorem sX10_readProduct_23 {a0 a1 a2 : Value} (hv : am_rf a0 = true) (h : am_R E d mX10_readProduct k n 24 [a0, a1, a2] (a0 :: st) S iv Q) : am_R E d mX10_readProduct k n 23 [a0, a1, a2] st S iv Q := am_aload_n dX10_readProduct_23 rfl rfl hv h
theorem sX10_readProduct_24 {a0 a1 a2 : Value} (h : am_R E d mX10_readProduct k n 26 [a0, a1, a2] (.int 42 :: st) S iv Q) : am_R E d mX10_readProduct k n 24 [a0, a1, a2] st S iv Q := am_bipush dX10_readProduct_24 (by decide) h
theorem sX10_readProduct_26 {ls : List Value} {x1 : Value} {a : Nat} (ha : S.1 a = some (.inl 10)) (hst : (st.map fun v => v.category).sum ≤ 8) (hM : am_M E d mX10_isMarked 0 0 [.ref a, x1] S iv (am_K3 E (d + 1) mX10_readProduct k n 26 ls st Q)) : am_R E (d + 1) mX10_readProduct k n 26 ls (x1 :: .ref a :: st) S iv Q := am_cV (ci := 10) (M' := mX10_isMarked) (as := [x1]) dX10_readProduct_26 rfl rfl rfl wq_854 wq_855 wq_856 wq_808 wq_852 hy_X10_isMarked (by decide) ha hst (by omega) (by omega) hM
theorem sX10_readProduct_26_k {ls : List Value} {x1 : Value} {k' n' : Nat} {a : Nat} (ha : S.1 a = some (.inl 10)) (hst : (st.map fun v => v.category).sum ≤ 8) (hM : am_M E d mX10_isMarked k' n' [.ref a, x1] S iv (am_K3 E (d + 1) mX10_readProduct k n 26 ls st Q)) : am_R E (d + 1) mX10_readProduct (k' + k) (n' + n) 26 ls (x1 :: .ref a :: st) S iv Q := am_cV (ci := 10) (M' := mX10_isMarked) (as := [x1]) dX10_readProduct_26 rfl rfl rfl wq_854 wq_855 wq_856 wq_808 wq_852 hy_X10_isMarked (by decide) ha hst (by omega) (by omega) hM
theorem sX10_readProduct_29 {ls : List Value} {x : Int32} (kt : x = 0 → am_R E d mX10_readProduct k n 37 ls st S iv Q) (kf : ¬ x = 0 → am_R E d mX10_readProduct k n 32 ls st S iv Q) : am_R E d mX10_readProduct k n 29 ls (.int x :: st) S iv Q := am_if_eq dX10_readProduct_29 (by decide) kt kf
theorem sX10_readProduct_32 {a0 a1 a2 : Value} (h : am_R E d mX10_readProduct k n 34 [a0, a1, a2] (.int (-22) :: st) S iv Q) : am_R E d mX10_readProduct k n 32 [a0, a1, a2] st S iv Q := am_bipush dX10_readProduct_32 (by decide) h
theorem sX10_readProduct_34 {ls : List Value} (h : am_R E d mX10_readProduct k n 39 ls st S iv Q) : am_R E d mX10_readProduct k n 34 ls st S iv Q := am_goto dX10_readProduct_34 (by decide) h
theorem sX10_readProduct_37 {a0 a1 a2 : Value} (h : am_R E d mX10_readProduct k n 39 [a0, a1, a2] (.int (-23) :: st) S iv Q) : am_R E d mX10_readProduct k n 37 [a0, a1, a2] st S iv Q := am_bipush dX10_readProduct_37 (by decide) h
theorem sX10_readProduct_39 {a0 a1 a2 : Value} {x : Int32} (h : am_R E d mX10_readProduct k n 40 [a0, a1, .int x] st S iv Q) : am_R E d mX10_readProduct k n 39 [a0, a1, a2] (.int x :: st) S iv Q := am_istore_n dX10_readProduct_39 rfl (by decide) h
theorem sX10_readProduct_40 {a0 a1 a2 : Value} (hv : am_rf a0 = true) (h : am_R E d mX10_readProduct k n 41 [a0, a1, a2] (a0 :: st) S iv Q) : am_R E d mX10_readProduct k n 40 [a0, a1, a2] st S iv Q := am_aload_n dX10_readProduct_40 rfl rfl hv h
theorem sX10_readProduct_41 {ls : List Value} {a : Nat} (ha : S.1 a = some (.inl 10)) (hst : (st.map fun v => v.category).sum ≤ 8) (hM : am_M E d mX10_stepOn 0 0 [.ref a] S iv (am_K3 E (d + 1) mX10_readProduct k n 41 ls st Q)) : am_R E (d + 1) mX10_readProduct k n 41 ls (.ref a :: st) S iv Q := am_cV (ci := 10) (M' := mX10_stepOn) (as := []) dX10_readProduct_41 rfl rfl rfl wq_849 wq_850 wq_851 wq_808 wq_847 hy_X10_stepOn (by decide) ha hst (by omega) (by omega) hM
theorem sX10_readProduct_41_k {ls : List Value} {k' n' : Nat} {a : Nat} (ha : S.1 a = some (.inl 10)) (hst : (st.map fun v => v.category).sum ≤ 8) (hM : am_M E d mX10_stepOn k' n' [.ref a] S iv (am_K3 E (d + 1) mX10_readProduct k n 41 ls st Q)) : am_R E (d + 1) mX10_readProduct (k' + k) (n' + n) 41 ls (.ref a :: st) S iv Q := am_cV (ci := 10) (M' := mX10_stepOn) (as := []) dX10_readProduct_41 rfl rfl rfl wq_849 wq_850 wq_851 wq_808 wq_847 hy_X10_stepOn (by decide) ha hst (by omega) (by omega) hM
theorem sX10_readProduct_44 {a0 a1 a2 : Value} (hv : am_rf a0 = true) (h : am_R E d mX10_readProduct k n 45 [a0, a1, a2] (a0 :: st) S iv Q) : am_R E d mX10_readProduct k n 44 [a0, a1, a2] st S iv Q := am_aload_n dX10_readProduct_44 rfl rfl hv h
theorem sX10_readProduct_45 {a0 a2 : Value} {x : Int32} (h : am_R E d mX10_readProduct k n 46 [a0, .int x, a2] (.int x :: st) S iv Q) : am_R E d mX10_readProduct k n 45 [a0, .int x, a2] st S iv Q := am_iload_n dX10_readProduct_45 rfl rfl h
theorem sX10_readProduct_46 {ls : List Value} {x1 : Value} {a : Nat} (ha : S.1 a = some (.inl 10)) (hst : (st.map fun v => v.category).sum ≤ 8) (hM : am_M E d mX10_readPart 0 0 [.ref a, x1] S iv (am_K3 E (d + 1) mX10_readProduct k n 46 ls st Q)) : am_R E (d + 1) mX10_readProduct k n 46 ls (x1 :: .ref a :: st) S iv Q := am_cV (ci := 10) (M' := mX10_readPart) (as := [x1]) dX10_readProduct_46 rfl rfl rfl wq_895 wq_896 wq_897 wq_808 wq_893 hy_X10_readPart (by decide) ha hst (by omega) (by omega) hM
theorem sX10_readProduct_46_k {ls : List Value} {x1 : Value} {k' n' : Nat} {a : Nat} (ha : S.1 a = some (.inl 10)) (hst : (st.map fun v => v.category).sum ≤ 8) (hM : am_M E d mX10_readPart k' n' [.ref a, x1] S iv (am_K3 E (d + 1) mX10_readProduct k n 46 ls st Q)) : am_R E (d + 1) mX10_readProduct (k' + k) (n' + n) 46 ls (x1 :: .ref a :: st) S iv Q := am_cV (ci := 10) (M' := mX10_readPart) (as := [x1]) dX10_readProduct_46 rfl rfl rfl wq_895 wq_896 wq_897 wq_808 wq_893 hy_X10_readPart (by decide) ha hst (by omega) (by omega) hM
theorem sX10_readProduct_49 {a0 a1 a2 : Value} (hv : am_rf a0 = true) (h : am_R E d mX10_readProduct k n 50 [a0, a1, a2] (a0 :: st) S iv Q) : am_R E d mX10_readProduct k n 49 [a0, a1, a2] st S iv Q := am_aload_n dX10_readProduct_49 rfl rfl hv h
theorem sX10_readProduct_50 {a0 a1 : Value} {x : Int32} (h : am_R E d mX10_readProduct k n 51 [a0, a1, .int x] (.int x :: st) S iv Q) : am_R E d mX10_readProduct k n 50 [a0, a1, .int x] st S iv Q := am_iload_n dX10_readProduct_50 rfl rfl h
theorem sX10_readProduct_51 {ls : List Value} {x1 : Value} {a : Nat} (ha : S.1 a = some (.inl 10)) (hst : (st.map fun v => v.category).sum ≤ 8) (hM : am_M E d mX10_lay 0 0 [.ref a, x1] S iv (am_K3 E (d + 1) mX10_readProduct k n 51 ls st Q)) : am_R E (d + 1) mX10_readProduct k n 51 ls (x1 :: .ref a :: st) S iv Q := am_cV (ci := 10) (M' := mX10_lay) (as := [x1]) dX10_readProduct_51 rfl rfl rfl wq_875 wq_876 wq_877 wq_808 wq_873 hy_X10_lay (by decide) ha hst (by omega) (by omega) hM
theorem sX10_readProduct_51_k {ls : List Value} {x1 : Value} {k' n' : Nat} {a : Nat} (ha : S.1 a = some (.inl 10)) (hst : (st.map fun v => v.category).sum ≤ 8) (hM : am_M E d mX10_lay k' n' [.ref a, x1] S iv (am_K3 E (d + 1) mX10_readProduct k n 51 ls st Q)) : am_R E (d + 1) mX10_readProduct (k' + k) (n' + n) 51 ls (x1 :: .ref a :: st) S iv Q := am_cV (ci := 10) (M' := mX10_lay) (as := [x1]) dX10_readProduct_51 rfl rfl rfl wq_875 wq_876 wq_877 wq_808 wq_873 hy_X10_lay (by decide) ha hst (by omega) (by omega) hM
theorem sX10_readProduct_54 {ls : List Value} (h : am_R E d mX10_readProduct k n 5 ls st S iv Q) : am_R E d mX10_readProduct k n 54 ls st S iv Q := am_goto dX10_readProduct_54 (by decide) h
theorem sX10_readProduct_57 {ls : List Value} (h : Q (.inl none) S iv) : am_R E d mX10_readProduct k n 57 ls [] S iv Q := am_return dX10_readProduct_57 rfl h
theorem dX10_readSum_0 : decode cX10_readSum 0 = .ok (.aload_n 0, 1) := by decide +kernel
theorem dX10_readSum_1 : decode cX10_readSum 1 = .ok (.iload_n 1, 1) := by decide +kernel
theorem dX10_readSum_2 : decode cX10_readSum 2 = .ok (.invokevirtual 244, 3) := by decide +kernel
theorem dX10_readSum_5 : decode cX10_readSum 5 = .ok (.aload_n 0, 1) := by decide +kernel
theorem dX10_readSum_6 : decode cX10_readSum 6 = .ok (.bipush 43, 2) := by decide +kernel
theorem dX10_readSum_8 : decode cX10_readSum 8 = .ok (.invokevirtual 212, 3) := by decide +kernel
theorem dX10_readSum_11 : decode cX10_readSum 11 = .ok (.ifCond .ne 12, 3) := by decide +kernel
theorem dX10_readSum_14 : decode cX10_readSum 14 = .ok (.aload_n 0, 1) := by decide +kernel
theorem dX10_readSum_15 : decode cX10_readSum 15 = .ok (.bipush 45, 2) := by decide +kernel
theorem dX10_readSum_17 : decode cX10_readSum 17 = .ok (.invokevirtual 212, 3) := by decide +kernel
theorem dX10_readSum_20 : decode cX10_readSum 20 = .ok (.ifCond .eq 37, 3) := by decide +kernel
theorem dX10_readSum_23 : decode cX10_readSum 23 = .ok (.aload_n 0, 1) := by decide +kernel
theorem dX10_readSum_24 : decode cX10_readSum 24 = .ok (.bipush 43, 2) := by decide +kernel
theorem dX10_readSum_26 : decode cX10_readSum 26 = .ok (.invokevirtual 212, 3) := by decide +kernel
theorem dX10_readSum_29 : decode cX10_readSum 29 = .ok (.ifCond .eq 8, 3) := by decide +kernel
theorem dX10_readSum_32 : decode cX10_readSum 32 = .ok (.bipush (-20), 2) := by decide +kernel
theorem dX10_readSum_34 : decode cX10_readSum 34 = .ok (.goto 5, 3) := by decide +kernel
theorem dX10_readSum_37 : decode cX10_readSum 37 = .ok (.bipush (-21), 2) := by decide +kernel
theorem dX10_readSum_39 : decode cX10_readSum 39 = .ok (.istore_n 2, 1) := by decide +kernel
theorem dX10_readSum_40 : decode cX10_readSum 40 = .ok (.aload_n 0, 1) := by decide +kernel
theorem dX10_readSum_41 : decode cX10_readSum 41 = .ok (.invokevirtual 209, 3) := by decide +kernel
theorem dX10_readSum_44 : decode cX10_readSum 44 = .ok (.aload_n 0, 1) := by decide +kernel
theorem dX10_readSum_45 : decode cX10_readSum 45 = .ok (.iload_n 1, 1) := by decide +kernel
theorem dX10_readSum_46 : decode cX10_readSum 46 = .ok (.invokevirtual 244, 3) := by decide +kernel
theorem dX10_readSum_49 : decode cX10_readSum 49 = .ok (.aload_n 0, 1) := by decide +kernel
theorem dX10_readSum_50 : decode cX10_readSum 50 = .ok (.iload_n 2, 1) := by decide +kernel
theorem dX10_readSum_51 : decode cX10_readSum 51 = .ok (.invokevirtual 228, 3) := by decide +kernel
theorem dX10_readSum_54 : decode cX10_readSum 54 = .ok (.goto (-49), 3) := by decide +kernel
theorem dX10_readSum_57 : decode cX10_readSum 57 = .ok (.return_, 1) := by decide +kernel
theorem sX10_readSum_0 {a0 a1 a2 : Value} (hv : am_rf a0 = true) (h : am_R E d mX10_readSum k n 1 [a0, a1, a2] (a0 :: st) S iv Q) : am_R E d mX10_readSum k n 0 [a0, a1, a2] st S iv Q := am_aload_n dX10_readSum_0 rfl rfl hv h
theorem sX10_readSum_1 {a0 a2 : Value} {x : Int32} (h : am_R E d mX10_readSum k n 2 [a0, .int x, a2] (.int x :: st) S iv Q) : am_R E d mX10_readSum k n 1 [a0, .int x, a2] st S iv Q := am_iload_n dX10_readSum_1 rfl rfl h
theorem sX10_readSum_2 {ls : List Value} {x1 : Value} {a : Nat} (ha : S.1 a = some (.inl 10)) (hst : (st.map fun v => v.category).sum ≤ 8) (hM : am_M E d mX10_readProduct 0 0 [.ref a, x1] S iv (am_K3 E (d + 1) mX10_readSum k n 2 ls st Q)) : am_R E (d + 1) mX10_readSum k n 2 ls (x1 :: .ref a :: st) S iv Q := am_cV (ci := 10) (M' := mX10_readProduct) (as := [x1]) dX10_readSum_2 rfl rfl rfl wq_900 wq_901 wq_902 wq_808 wq_898 hy_X10_readProduct (by decide) ha hst (by omega) (by omega) hM
theorem sX10_readSum_2_k {ls : List Value} {x1 : Value} {k' n' : Nat} {a : Nat} (ha : S.1 a = some (.inl 10)) (hst : (st.map fun v => v.category).sum ≤ 8) (hM : am_M E d mX10_readProduct k' n' [.ref a, x1] S iv (am_K3 E (d + 1) mX10_readSum k n 2 ls st Q)) : am_R E (d + 1) mX10_readSum (k' + k) (n' + n) 2 ls (x1 :: .ref a :: st) S iv Q := am_cV (ci := 10) (M' := mX10_readProduct) (as := [x1]) dX10_readSum_2 rfl rfl rfl wq_900 wq_901 wq_902 wq_808 wq_898 hy_X10_readProduct (by decide) ha hst (by omega) (by omega) hM
theorem sX10_readSum_5 {a0 a1 a2 : Value} (hv : am_rf a0 = true) (h : am_R E d mX10_readSum k n 6 [a0, a1, a2] (a0 :: st) S iv Q) : am_R E d mX10_readSum k n 5 [a0, a1, a2] st S iv Q := am_aload_n dX10_readSum_5 rfl rfl hv h
theorem sX10_readSum_6 {a0 a1 a2 : Value} (h : am_R E d mX10_readSum k n 8 [a0, a1, a2] (.int 43 :: st) S iv Q) : am_R E d mX10_readSum k n 6 [a0, a1, a2] st S iv Q := am_bipush dX10_readSum_6 (by decide) h
theorem sX10_readSum_8 {ls : List Value} {x1 : Value} {a : Nat} (ha : S.1 a = some (.inl 10)) (hst : (st.map fun v => v.category).sum ≤ 8) (hM : am_M E d mX10_isMarked 0 0 [.ref a, x1] S iv (am_K3 E (d + 1) mX10_readSum k n 8 ls st Q)) : am_R E (d + 1) mX10_readSum k n 8 ls (x1 :: .ref a :: st) S iv Q := am_cV (ci := 10) (M' := mX10_isMarked) (as := [x1]) dX10_readSum_8 rfl rfl rfl wq_854 wq_855 wq_856 wq_808 wq_852 hy_X10_isMarked (by decide) ha hst (by omega) (by omega) hM
theorem sX10_readSum_8_k {ls : List Value} {x1 : Value} {k' n' : Nat} {a : Nat} (ha : S.1 a = some (.inl 10)) (hst : (st.map fun v => v.category).sum ≤ 8) (hM : am_M E d mX10_isMarked k' n' [.ref a, x1] S iv (am_K3 E (d + 1) mX10_readSum k n 8 ls st Q)) : am_R E (d + 1) mX10_readSum (k' + k) (n' + n) 8 ls (x1 :: .ref a :: st) S iv Q := am_cV (ci := 10) (M' := mX10_isMarked) (as := [x1]) dX10_readSum_8 rfl rfl rfl wq_854 wq_855 wq_856 wq_808 wq_852 hy_X10_isMarked (by decide) ha hst (by omega) (by omega) hM
theorem sX10_readSum_11 {ls : List Value} {x : Int32} (kt : ¬ x = 0 → am_R E d mX10_readSum k n 23 ls st S iv Q) (kf : x = 0 → am_R E d mX10_readSum k n 14 ls st S iv Q) : am_R E d mX10_readSum k n 11 ls (.int x :: st) S iv Q := am_if_ne dX10_readSum_11 (by decide) kt kf
theorem sX10_readSum_14 {a0 a1 a2 : Value} (hv : am_rf a0 = true) (h : am_R E d mX10_readSum k n 15 [a0, a1, a2] (a0 :: st) S iv Q) : am_R E d mX10_readSum k n 14 [a0, a1, a2] st S iv Q := am_aload_n dX10_readSum_14 rfl rfl hv h
theorem sX10_readSum_15 {a0 a1 a2 : Value} (h : am_R E d mX10_readSum k n 17 [a0, a1, a2] (.int 45 :: st) S iv Q) : am_R E d mX10_readSum k n 15 [a0, a1, a2] st S iv Q := am_bipush dX10_readSum_15 (by decide) h
theorem sX10_readSum_17 {ls : List Value} {x1 : Value} {a : Nat} (ha : S.1 a = some (.inl 10)) (hst : (st.map fun v => v.category).sum ≤ 8) (hM : am_M E d mX10_isMarked 0 0 [.ref a, x1] S iv (am_K3 E (d + 1) mX10_readSum k n 17 ls st Q)) : am_R E (d + 1) mX10_readSum k n 17 ls (x1 :: .ref a :: st) S iv Q := am_cV (ci := 10) (M' := mX10_isMarked) (as := [x1]) dX10_readSum_17 rfl rfl rfl wq_854 wq_855 wq_856 wq_808 wq_852 hy_X10_isMarked (by decide) ha hst (by omega) (by omega) hM
theorem sX10_readSum_17_k {ls : List Value} {x1 : Value} {k' n' : Nat} {a : Nat} (ha : S.1 a = some (.inl 10)) (hst : (st.map fun v => v.category).sum ≤ 8) (hM : am_M E d mX10_isMarked k' n' [.ref a, x1] S iv (am_K3 E (d + 1) mX10_readSum k n 17 ls st Q)) : am_R E (d + 1) mX10_readSum (k' + k) (n' + n) 17 ls (x1 :: .ref a :: st) S iv Q := am_cV (ci := 10) (M' := mX10_isMarked) (as := [x1]) dX10_readSum_17 rfl rfl rfl wq_854 wq_855 wq_856 wq_808 wq_852 hy_X10_isMarked (by decide) ha hst (by omega) (by omega) hM
theorem sX10_readSum_20 {ls : List Value} {x : Int32} (kt : x = 0 → am_R E d mX10_readSum k n 57 ls st S iv Q) (kf : ¬ x = 0 → am_R E d mX10_readSum k n 23 ls st S iv Q) : am_R E d mX10_readSum k n 20 ls (.int x :: st) S iv Q := am_if_eq dX10_readSum_20 (by decide) kt kf
theorem sX10_readSum_23 {a0 a1 a2 : Value} (hv : am_rf a0 = true) (h : am_R E d mX10_readSum k n 24 [a0, a1, a2] (a0 :: st) S iv Q) : am_R E d mX10_readSum k n 23 [a0, a1, a2] st S iv Q := am_aload_n dX10_readSum_23 rfl rfl hv h
theorem sX10_readSum_24 {a0 a1 a2 : Value} (h : am_R E d mX10_readSum k n 26 [a0, a1, a2] (.int 43 :: st) S iv Q) : am_R E d mX10_readSum k n 24 [a0, a1, a2] st S iv Q := am_bipush dX10_readSum_24 (by decide) h
theorem sX10_readSum_26 {ls : List Value} {x1 : Value} {a : Nat} (ha : S.1 a = some (.inl 10)) (hst : (st.map fun v => v.category).sum ≤ 8) (hM : am_M E d mX10_isMarked 0 0 [.ref a, x1] S iv (am_K3 E (d + 1) mX10_readSum k n 26 ls st Q)) : am_R E (d + 1) mX10_readSum k n 26 ls (x1 :: .ref a :: st) S iv Q := am_cV (ci := 10) (M' := mX10_isMarked) (as := [x1]) dX10_readSum_26 rfl rfl rfl wq_854 wq_855 wq_856 wq_808 wq_852 hy_X10_isMarked (by decide) ha hst (by omega) (by omega) hM
theorem sX10_readSum_26_k {ls : List Value} {x1 : Value} {k' n' : Nat} {a : Nat} (ha : S.1 a = some (.inl 10)) (hst : (st.map fun v => v.category).sum ≤ 8) (hM : am_M E d mX10_isMarked k' n' [.ref a, x1] S iv (am_K3 E (d + 1) mX10_readSum k n 26 ls st Q)) : am_R E (d + 1) mX10_readSum (k' + k) (n' + n) 26 ls (x1 :: .ref a :: st) S iv Q := am_cV (ci := 10) (M' := mX10_isMarked) (as := [x1]) dX10_readSum_26 rfl rfl rfl wq_854 wq_855 wq_856 wq_808 wq_852 hy_X10_isMarked (by decide) ha hst (by omega) (by omega) hM
theorem sX10_readSum_29 {ls : List Value} {x : Int32} (kt : x = 0 → am_R E d mX10_readSum k n 37 ls st S iv Q) (kf : ¬ x = 0 → am_R E d mX10_readSum k n 32 ls st S iv Q) : am_R E d mX10_readSum k n 29 ls (.int x :: st) S iv Q := am_if_eq dX10_readSum_29 (by decide) kt kf
theorem sX10_readSum_32 {a0 a1 a2 : Value} (h : am_R E d mX10_readSum k n 34 [a0, a1, a2] (.int (-20) :: st) S iv Q) : am_R E d mX10_readSum k n 32 [a0, a1, a2] st S iv Q := am_bipush dX10_readSum_32 (by decide) h
theorem sX10_readSum_34 {ls : List Value} (h : am_R E d mX10_readSum k n 39 ls st S iv Q) : am_R E d mX10_readSum k n 34 ls st S iv Q := am_goto dX10_readSum_34 (by decide) h
theorem sX10_readSum_37 {a0 a1 a2 : Value} (h : am_R E d mX10_readSum k n 39 [a0, a1, a2] (.int (-21) :: st) S iv Q) : am_R E d mX10_readSum k n 37 [a0, a1, a2] st S iv Q := am_bipush dX10_readSum_37 (by decide) h
theorem sX10_readSum_39 {a0 a1 a2 : Value} {x : Int32} (h : am_R E d mX10_readSum k n 40 [a0, a1, .int x] st S iv Q) : am_R E d mX10_readSum k n 39 [a0, a1, a2] (.int x :: st) S iv Q := am_istore_n dX10_readSum_39 rfl (by decide) h
theorem sX10_readSum_40 {a0 a1 a2 : Value} (hv : am_rf a0 = true) (h : am_R E d mX10_readSum k n 41 [a0, a1, a2] (a0 :: st) S iv Q) : am_R E d mX10_readSum k n 40 [a0, a1, a2] st S iv Q := am_aload_n dX10_readSum_40 rfl rfl hv h
theorem sX10_readSum_41 {ls : List Value} {a : Nat} (ha : S.1 a = some (.inl 10)) (hst : (st.map fun v => v.category).sum ≤ 8) (hM : am_M E d mX10_stepOn 0 0 [.ref a] S iv (am_K3 E (d + 1) mX10_readSum k n 41 ls st Q)) : am_R E (d + 1) mX10_readSum k n 41 ls (.ref a :: st) S iv Q := am_cV (ci := 10) (M' := mX10_stepOn) (as := []) dX10_readSum_41 rfl rfl rfl wq_849 wq_850 wq_851 wq_808 wq_847 hy_X10_stepOn (by decide) ha hst (by omega) (by omega) hM
theorem sX10_readSum_41_k {ls : List Value} {k' n' : Nat} {a : Nat} (ha : S.1 a = some (.inl 10)) (hst : (st.map fun v => v.category).sum ≤ 8) (hM : am_M E d mX10_stepOn k' n' [.ref a] S iv (am_K3 E (d + 1) mX10_readSum k n 41 ls st Q)) : am_R E (d + 1) mX10_readSum (k' + k) (n' + n) 41 ls (.ref a :: st) S iv Q := am_cV (ci := 10) (M' := mX10_stepOn) (as := []) dX10_readSum_41 rfl rfl rfl wq_849 wq_850 wq_851 wq_808 wq_847 hy_X10_stepOn (by decide) ha hst (by omega) (by omega) hM
theorem sX10_readSum_44 {a0 a1 a2 : Value} (hv : am_rf a0 = true) (h : am_R E d mX10_readSum k n 45 [a0, a1, a2] (a0 :: st) S iv Q) : am_R E d mX10_readSum k n 44 [a0, a1, a2] st S iv Q := am_aload_n dX10_readSum_44 rfl rfl hv h
theorem sX10_readSum_45 {a0 a2 : Value} {x : Int32} (h : am_R E d mX10_readSum k n 46 [a0, .int x, a2] (.int x :: st) S iv Q) : am_R E d mX10_readSum k n 45 [a0, .int x, a2] st S iv Q := am_iload_n dX10_readSum_45 rfl rfl h
theorem sX10_readSum_46 {ls : List Value} {x1 : Value} {a : Nat} (ha : S.1 a = some (.inl 10)) (hst : (st.map fun v => v.category).sum ≤ 8) (hM : am_M E d mX10_readProduct 0 0 [.ref a, x1] S iv (am_K3 E (d + 1) mX10_readSum k n 46 ls st Q)) : am_R E (d + 1) mX10_readSum k n 46 ls (x1 :: .ref a :: st) S iv Q := am_cV (ci := 10) (M' := mX10_readProduct) (as := [x1]) dX10_readSum_46 rfl rfl rfl wq_900 wq_901 wq_902 wq_808 wq_898 hy_X10_readProduct (by decide) ha hst (by omega) (by omega) hM
theorem sX10_readSum_46_k {ls : List Value} {x1 : Value} {k' n' : Nat} {a : Nat} (ha : S.1 a = some (.inl 10)) (hst : (st.map fun v => v.category).sum ≤ 8) (hM : am_M E d mX10_readProduct k' n' [.ref a, x1] S iv (am_K3 E (d + 1) mX10_readSum k n 46 ls st Q)) : am_R E (d + 1) mX10_readSum (k' + k) (n' + n) 46 ls (x1 :: .ref a :: st) S iv Q := am_cV (ci := 10) (M' := mX10_readProduct) (as := [x1]) dX10_readSum_46 rfl rfl rfl wq_900 wq_901 wq_902 wq_808 wq_898 hy_X10_readProduct (by decide) ha hst (by omega) (by omega) hM
theorem sX10_readSum_49 {a0 a1 a2 : Value} (hv : am_rf a0 = true) (h : am_R E d mX10_readSum k n 50 [a0, a1, a2] (a0 :: st) S iv Q) : am_R E d mX10_readSum k n 49 [a0, a1, a2] st S iv Q := am_aload_n dX10_readSum_49 rfl rfl hv h
theorem sX10_readSum_50 {a0 a1 : Value} {x : Int32} (h : am_R E d mX10_readSum k n 51 [a0, a1, .int x] (.int x :: st) S iv Q) : am_R E d mX10_readSum k n 50 [a0, a1, .int x] st S iv Q := am_iload_n dX10_readSum_50 rfl rfl h
theorem sX10_readSum_51 {ls : List Value} {x1 : Value} {a : Nat} (ha : S.1 a = some (.inl 10)) (hst : (st.map fun v => v.category).sum ≤ 8) (hM : am_M E d mX10_lay 0 0 [.ref a, x1] S iv (am_K3 E (d + 1) mX10_readSum k n 51 ls st Q)) : am_R E (d + 1) mX10_readSum k n 51 ls (x1 :: .ref a :: st) S iv Q := am_cV (ci := 10) (M' := mX10_lay) (as := [x1]) dX10_readSum_51 rfl rfl rfl wq_875 wq_876 wq_877 wq_808 wq_873 hy_X10_lay (by decide) ha hst (by omega) (by omega) hM
theorem sX10_readSum_51_k {ls : List Value} {x1 : Value} {k' n' : Nat} {a : Nat} (ha : S.1 a = some (.inl 10)) (hst : (st.map fun v => v.category).sum ≤ 8) (hM : am_M E d mX10_lay k' n' [.ref a, x1] S iv (am_K3 E (d + 1) mX10_readSum k n 51 ls st Q)) : am_R E (d + 1) mX10_readSum (k' + k) (n' + n) 51 ls (x1 :: .ref a :: st) S iv Q := am_cV (ci := 10) (M' := mX10_lay) (as := [x1]) dX10_readSum_51 rfl rfl rfl wq_875 wq_876 wq_877 wq_808 wq_873 hy_X10_lay (by decide) ha hst (by omega) (by omega) hM
theorem sX10_readSum_54 {ls : List Value} (h : am_R E d mX10_readSum k n 5 ls st S iv Q) : am_R E d mX10_readSum k n 54 ls st S iv Q := am_goto dX10_readSum_54 (by decide) h
theorem sX10_readSum_57 {ls : List Value} (h : Q (.inl none) S iv) : am_R E d mX10_readSum k n 57 ls [] S iv Q := am_return dX10_readSum_57 rfl h
theorem dX10_readNot_0 : decode cX10_readNot 0 = .ok (.iconst 0, 1) := by decide +kernel
theorem dX10_readNot_1 : decode cX10_readNot 1 = .ok (.istore_n 2, 1) := by decide +kernel
theorem dX10_readNot_2 : decode cX10_readNot 2 = .ok (.aload_n 0, 1) := by decide +kernel
theorem dX10_readNot_3 : decode cX10_readNot 3 = .ok (.ldc 247, 2) := by decide +kernel
theorem dX10_readNot_5 : decode cX10_readNot 5 = .ok (.invokevirtual 205, 3) := by decide +kernel
theorem dX10_readNot_8 : decode cX10_readNot 8 = .ok (.ifCond .eq 31, 3) := by decide +kernel
theorem dX10_readNot_11 : decode cX10_readNot 11 = .ok (.iload_n 2, 1) := by decide +kernel
theorem dX10_readNot_12 : decode cX10_readNot 12 = .ok (.bipush 6, 2) := by decide +kernel
theorem dX10_readNot_14 : decode cX10_readNot 14 = .ok (.if_icmp .ne 8, 3) := by decide +kernel
theorem dX10_readNot_17 : decode cX10_readNot 17 = .ok (.aload_n 0, 1) := by decide +kernel
theorem dX10_readNot_18 : decode cX10_readNot 18 = .ok (.iconst 2, 1) := by decide +kernel
theorem dX10_readNot_19 : decode cX10_readNot 19 = .ok (.invokevirtual 215, 3) := by decide +kernel
theorem dX10_readNot_22 : decode cX10_readNot 22 = .ok (.iinc 2 1, 3) := by decide +kernel
theorem dX10_readNot_25 : decode cX10_readNot 25 = .ok (.aload_n 0, 1) := by decide +kernel
theorem dX10_readNot_26 : decode cX10_readNot 26 = .ok (.getfield 192, 3) := by decide +kernel
theorem dX10_readNot_29 : decode cX10_readNot 29 = .ok (.ifCond .ne (-27), 3) := by decide +kernel
theorem dX10_readNot_32 : decode cX10_readNot 32 = .ok (.aload_n 0, 1) := by decide +kernel
theorem dX10_readNot_33 : decode cX10_readNot 33 = .ok (.invokevirtual 209, 3) := by decide +kernel
theorem dX10_readNot_36 : decode cX10_readNot 36 = .ok (.goto (-34), 3) := by decide +kernel
theorem dX10_readNot_39 : decode cX10_readNot 39 = .ok (.aload_n 0, 1) := by decide +kernel
theorem dX10_readNot_40 : decode cX10_readNot 40 = .ok (.iload_n 1, 1) := by decide +kernel
theorem dX10_readNot_41 : decode cX10_readNot 41 = .ok (.invokevirtual 249, 3) := by decide +kernel
theorem dX10_readNot_44 : decode cX10_readNot 44 = .ok (.aload_n 0, 1) := by decide +kernel
theorem dX10_readNot_45 : decode cX10_readNot 45 = .ok (.bipush 60, 2) := by decide +kernel
theorem dX10_readNot_47 : decode cX10_readNot 47 = .ok (.invokevirtual 212, 3) := by decide +kernel
theorem dX10_readNot_50 : decode cX10_readNot 50 = .ok (.ifCond .ne 12, 3) := by decide +kernel
theorem dX10_readNot_53 : decode cX10_readNot 53 = .ok (.aload_n 0, 1) := by decide +kernel
theorem dX10_readNot_54 : decode cX10_readNot 54 = .ok (.bipush 61, 2) := by decide +kernel
theorem dX10_readNot_56 : decode cX10_readNot 56 = .ok (.invokevirtual 212, 3) := by decide +kernel
theorem dX10_readNot_59 : decode cX10_readNot 59 = .ok (.ifCond .eq 34, 3) := by decide +kernel
theorem dX10_readNot_62 : decode cX10_readNot 62 = .ok (.aload_n 0, 1) := by decide +kernel
theorem dX10_readNot_63 : decode cX10_readNot 63 = .ok (.bipush 60, 2) := by decide +kernel
theorem dX10_readNot_65 : decode cX10_readNot 65 = .ok (.invokevirtual 212, 3) := by decide +kernel
theorem dX10_readNot_68 : decode cX10_readNot 68 = .ok (.ifCond .eq 8, 3) := by decide +kernel
theorem dX10_readNot_71 : decode cX10_readNot 71 = .ok (.bipush (-24), 2) := by decide +kernel
theorem dX10_readNot_73 : decode cX10_readNot 73 = .ok (.goto 5, 3) := by decide +kernel
theorem dX10_readNot_76 : decode cX10_readNot 76 = .ok (.bipush (-25), 2) := by decide +kernel
theorem dX10_readNot_78 : decode cX10_readNot 78 = .ok (.istore_n 3, 1) := by decide +kernel
theorem dX10_readNot_79 : decode cX10_readNot 79 = .ok (.aload_n 0, 1) := by decide +kernel
theorem dX10_readNot_80 : decode cX10_readNot 80 = .ok (.invokevirtual 209, 3) := by decide +kernel
theorem dX10_readNot_83 : decode cX10_readNot 83 = .ok (.aload_n 0, 1) := by decide +kernel
theorem dX10_readNot_84 : decode cX10_readNot 84 = .ok (.iload_n 1, 1) := by decide +kernel
theorem dX10_readNot_85 : decode cX10_readNot 85 = .ok (.invokevirtual 249, 3) := by decide +kernel
theorem dX10_readNot_88 : decode cX10_readNot 88 = .ok (.aload_n 0, 1) := by decide +kernel
theorem dX10_readNot_89 : decode cX10_readNot 89 = .ok (.iload_n 3, 1) := by decide +kernel
theorem dX10_readNot_90 : decode cX10_readNot 90 = .ok (.invokevirtual 228, 3) := by decide +kernel
theorem dX10_readNot_93 : decode cX10_readNot 93 = .ok (.iconst 0, 1) := by decide +kernel
theorem dX10_readNot_94 : decode cX10_readNot 94 = .ok (.istore_n 3, 1) := by decide +kernel
theorem dX10_readNot_95 : decode cX10_readNot 95 = .ok (.iload_n 3, 1) := by decide +kernel
theorem dX10_readNot_96 : decode cX10_readNot 96 = .ok (.iload_n 2, 1) := by decide +kernel
theorem dX10_readNot_97 : decode cX10_readNot 97 = .ok (.if_icmp .ge 15, 3) := by decide +kernel
theorem dX10_readNot_100 : decode cX10_readNot 100 = .ok (.aload_n 0, 1) := by decide +kernel
theorem dX10_readNot_101 : decode cX10_readNot 101 = .ok (.bipush (-28), 2) := by decide +kernel
theorem dX10_readNot_103 : decode cX10_readNot 103 = .ok (.invokevirtual 228, 3) := by decide +kernel
theorem dX10_readNot_106 : decode cX10_readNot 106 = .ok (.iinc 3 1, 3) := by decide +kernel
theorem dX10_readNot_109 : decode cX10_readNot 109 = .ok (.goto (-14), 3) := by decide +kernel
theorem dX10_readNot_112 : decode cX10_readNot 112 = .ok (.return_, 1) := by decide +kernel
theorem sX10_readNot_0 {a0 a1 a2 a3 : Value} (h : am_R E d mX10_readNot k n 1 [a0, a1, a2, a3] (.int 0 :: st) S iv Q) : am_R E d mX10_readNot k n 0 [a0, a1, a2, a3] st S iv Q := am_iconst dX10_readNot_0 (by decide) h
theorem sX10_readNot_1 {a0 a1 a2 a3 : Value} {x : Int32} (h : am_R E d mX10_readNot k n 2 [a0, a1, .int x, a3] st S iv Q) : am_R E d mX10_readNot k n 1 [a0, a1, a2, a3] (.int x :: st) S iv Q := am_istore_n dX10_readNot_1 rfl (by decide) h
theorem sX10_readNot_2 {a0 a1 a2 a3 : Value} (hv : am_rf a0 = true) (h : am_R E d mX10_readNot k n 3 [a0, a1, a2, a3] (a0 :: st) S iv Q) : am_R E d mX10_readNot k n 2 [a0, a1, a2, a3] st S iv Q := am_aload_n dX10_readNot_2 rfl rfl hv h
theorem sX10_readNot_3 {a0 a1 a2 a3 : Value} (h : am_R E d mX10_readNot k n 5 [a0, a1, a2, a3] (.retAddr 55 :: st) S iv Q) : am_R E d mX10_readNot k n 3 [a0, a1, a2, a3] st S iv Q := am_ldcS (tx := "not") dX10_readNot_3 (List.mem_of_getElem? (i := 55) rfl) h
theorem sX10_readNot_5 {ls : List Value} {x1 : Value} {a : Nat} (ha : S.1 a = some (.inl 10)) (hst : (st.map fun v => v.category).sum ≤ 8) (hM : am_M E d mX10_is 0 0 [.ref a, x1] S iv (am_K3 E (d + 1) mX10_readNot k n 5 ls st Q)) : am_R E (d + 1) mX10_readNot k n 5 ls (x1 :: .ref a :: st) S iv Q := am_cV (ci := 10) (M' := mX10_is) (as := [x1]) dX10_readNot_5 rfl rfl rfl wq_844 wq_845 wq_846 wq_808 wq_842 hy_X10_is (by decide) ha hst (by omega) (by omega) hM
theorem sX10_readNot_5_k {ls : List Value} {x1 : Value} {k' n' : Nat} {a : Nat} (ha : S.1 a = some (.inl 10)) (hst : (st.map fun v => v.category).sum ≤ 8) (hM : am_M E d mX10_is k' n' [.ref a, x1] S iv (am_K3 E (d + 1) mX10_readNot k n 5 ls st Q)) : am_R E (d + 1) mX10_readNot (k' + k) (n' + n) 5 ls (x1 :: .ref a :: st) S iv Q := am_cV (ci := 10) (M' := mX10_is) (as := [x1]) dX10_readNot_5 rfl rfl rfl wq_844 wq_845 wq_846 wq_808 wq_842 hy_X10_is (by decide) ha hst (by omega) (by omega) hM
theorem sX10_readNot_8 {ls : List Value} {x : Int32} (kt : x = 0 → am_R E d mX10_readNot k n 39 ls st S iv Q) (kf : ¬ x = 0 → am_R E d mX10_readNot k n 11 ls st S iv Q) : am_R E d mX10_readNot k n 8 ls (.int x :: st) S iv Q := am_if_eq dX10_readNot_8 (by decide) kt kf
theorem sX10_readNot_11 {a0 a1 a3 : Value} {x : Int32} (h : am_R E d mX10_readNot k n 12 [a0, a1, .int x, a3] (.int x :: st) S iv Q) : am_R E d mX10_readNot k n 11 [a0, a1, .int x, a3] st S iv Q := am_iload_n dX10_readNot_11 rfl rfl h
theorem sX10_readNot_12 {a0 a1 a2 a3 : Value} (h : am_R E d mX10_readNot k n 14 [a0, a1, a2, a3] (.int 6 :: st) S iv Q) : am_R E d mX10_readNot k n 12 [a0, a1, a2, a3] st S iv Q := am_bipush dX10_readNot_12 (by decide) h
theorem sX10_readNot_14 {ls : List Value} {x y : Int32} (kt : ¬ x = y → am_R E d mX10_readNot k n 22 ls st S iv Q) (kf : x = y → am_R E d mX10_readNot k n 17 ls st S iv Q) : am_R E d mX10_readNot k n 14 ls (.int y :: .int x :: st) S iv Q := am_icmp_ne dX10_readNot_14 (by decide) kt kf
theorem sX10_readNot_17 {a0 a1 a2 a3 : Value} (hv : am_rf a0 = true) (h : am_R E d mX10_readNot k n 18 [a0, a1, a2, a3] (a0 :: st) S iv Q) : am_R E d mX10_readNot k n 17 [a0, a1, a2, a3] st S iv Q := am_aload_n dX10_readNot_17 rfl rfl hv h
theorem sX10_readNot_18 {a0 a1 a2 a3 : Value} (h : am_R E d mX10_readNot k n 19 [a0, a1, a2, a3] (.int 2 :: st) S iv Q) : am_R E d mX10_readNot k n 18 [a0, a1, a2, a3] st S iv Q := am_iconst dX10_readNot_18 (by decide) h
theorem sX10_readNot_19 {ls : List Value} {x1 : Value} {a : Nat} (ha : S.1 a = some (.inl 10)) (hst : (st.map fun v => v.category).sum ≤ 8) (hM : am_M E d mX10_wrong 0 0 [.ref a, x1] S iv (am_K3 E (d + 1) mX10_readNot k n 19 ls st Q)) : am_R E (d + 1) mX10_readNot k n 19 ls (x1 :: .ref a :: st) S iv Q := am_cV (ci := 10) (M' := mX10_wrong) (as := [x1]) dX10_readNot_19 rfl rfl rfl wq_859 wq_860 wq_861 wq_808 wq_857 hy_X10_wrong (by decide) ha hst (by omega) (by omega) hM
theorem sX10_readNot_19_k {ls : List Value} {x1 : Value} {k' n' : Nat} {a : Nat} (ha : S.1 a = some (.inl 10)) (hst : (st.map fun v => v.category).sum ≤ 8) (hM : am_M E d mX10_wrong k' n' [.ref a, x1] S iv (am_K3 E (d + 1) mX10_readNot k n 19 ls st Q)) : am_R E (d + 1) mX10_readNot (k' + k) (n' + n) 19 ls (x1 :: .ref a :: st) S iv Q := am_cV (ci := 10) (M' := mX10_wrong) (as := [x1]) dX10_readNot_19 rfl rfl rfl wq_859 wq_860 wq_861 wq_808 wq_857 hy_X10_wrong (by decide) ha hst (by omega) (by omega) hM
theorem sX10_readNot_22 {a0 a1 a3 : Value} {x : Int32} (h : am_R E d mX10_readNot k n 25 [a0, a1, .int (x + 1), a3] st S iv Q) : am_R E d mX10_readNot k n 22 [a0, a1, .int x, a3] st S iv Q := am_iinc dX10_readNot_22 rfl rfl (by decide) h
theorem sX10_readNot_25 {a0 a1 a2 a3 : Value} (hv : am_rf a0 = true) (h : am_R E d mX10_readNot k n 26 [a0, a1, a2, a3] (a0 :: st) S iv Q) : am_R E d mX10_readNot k n 25 [a0, a1, a2, a3] st S iv Q := am_aload_n dX10_readNot_25 rfl rfl hv h
theorem sX10_readNot_26 {ls : List Value} {a : Nat} (ha : S.1 a = some (.inl 10)) (h : am_R E d mX10_readNot k n 29 ls (.int (iv a 25) :: st) S iv Q) : am_R E d mX10_readNot k n 26 ls (.ref a :: st) S iv Q := am_getI (ci := 10) dX10_readNot_26 rfl rfl (by decide) wq_838 uq_10 rfl ha h
theorem sX10_readNot_29 {ls : List Value} {x : Int32} (kt : ¬ x = 0 → am_R E d mX10_readNot k n 2 ls st S iv Q) (kf : x = 0 → am_R E d mX10_readNot k n 32 ls st S iv Q) : am_R E d mX10_readNot k n 29 ls (.int x :: st) S iv Q := am_if_ne dX10_readNot_29 (by decide) kt kf
theorem sX10_readNot_32 {a0 a1 a2 a3 : Value} (hv : am_rf a0 = true) (h : am_R E d mX10_readNot k n 33 [a0, a1, a2, a3] (a0 :: st) S iv Q) : am_R E d mX10_readNot k n 32 [a0, a1, a2, a3] st S iv Q := am_aload_n dX10_readNot_32 rfl rfl hv h
theorem sX10_readNot_33 {ls : List Value} {a : Nat} (ha : S.1 a = some (.inl 10)) (hst : (st.map fun v => v.category).sum ≤ 8) (hM : am_M E d mX10_stepOn 0 0 [.ref a] S iv (am_K3 E (d + 1) mX10_readNot k n 33 ls st Q)) : am_R E (d + 1) mX10_readNot k n 33 ls (.ref a :: st) S iv Q := am_cV (ci := 10) (M' := mX10_stepOn) (as := []) dX10_readNot_33 rfl rfl rfl wq_849 wq_850 wq_851 wq_808 wq_847 hy_X10_stepOn (by decide) ha hst (by omega) (by omega) hM
theorem sX10_readNot_33_k {ls : List Value} {k' n' : Nat} {a : Nat} (ha : S.1 a = some (.inl 10)) (hst : (st.map fun v => v.category).sum ≤ 8) (hM : am_M E d mX10_stepOn k' n' [.ref a] S iv (am_K3 E (d + 1) mX10_readNot k n 33 ls st Q)) : am_R E (d + 1) mX10_readNot (k' + k) (n' + n) 33 ls (.ref a :: st) S iv Q := am_cV (ci := 10) (M' := mX10_stepOn) (as := []) dX10_readNot_33 rfl rfl rfl wq_849 wq_850 wq_851 wq_808 wq_847 hy_X10_stepOn (by decide) ha hst (by omega) (by omega) hM
theorem sX10_readNot_36 {ls : List Value} (h : am_R E d mX10_readNot k n 2 ls st S iv Q) : am_R E d mX10_readNot k n 36 ls st S iv Q := am_goto dX10_readNot_36 (by decide) h
theorem sX10_readNot_39 {a0 a1 a2 a3 : Value} (hv : am_rf a0 = true) (h : am_R E d mX10_readNot k n 40 [a0, a1, a2, a3] (a0 :: st) S iv Q) : am_R E d mX10_readNot k n 39 [a0, a1, a2, a3] st S iv Q := am_aload_n dX10_readNot_39 rfl rfl hv h
theorem sX10_readNot_40 {a0 a2 a3 : Value} {x : Int32} (h : am_R E d mX10_readNot k n 41 [a0, .int x, a2, a3] (.int x :: st) S iv Q) : am_R E d mX10_readNot k n 40 [a0, .int x, a2, a3] st S iv Q := am_iload_n dX10_readNot_40 rfl rfl h
theorem sX10_readNot_41 {ls : List Value} {x1 : Value} {a : Nat} (ha : S.1 a = some (.inl 10)) (hst : (st.map fun v => v.category).sum ≤ 8) (hM : am_M E d mX10_readSum 0 0 [.ref a, x1] S iv (am_K3 E (d + 1) mX10_readNot k n 41 ls st Q)) : am_R E (d + 1) mX10_readNot k n 41 ls (x1 :: .ref a :: st) S iv Q := am_cV (ci := 10) (M' := mX10_readSum) (as := [x1]) dX10_readNot_41 rfl rfl rfl wq_905 wq_906 wq_907 wq_808 wq_903 hy_X10_readSum (by decide) ha hst (by omega) (by omega) hM
theorem sX10_readNot_41_k {ls : List Value} {x1 : Value} {k' n' : Nat} {a : Nat} (ha : S.1 a = some (.inl 10)) (hst : (st.map fun v => v.category).sum ≤ 8) (hM : am_M E d mX10_readSum k' n' [.ref a, x1] S iv (am_K3 E (d + 1) mX10_readNot k n 41 ls st Q)) : am_R E (d + 1) mX10_readNot (k' + k) (n' + n) 41 ls (x1 :: .ref a :: st) S iv Q := am_cV (ci := 10) (M' := mX10_readSum) (as := [x1]) dX10_readNot_41 rfl rfl rfl wq_905 wq_906 wq_907 wq_808 wq_903 hy_X10_readSum (by decide) ha hst (by omega) (by omega) hM
theorem sX10_readNot_44 {a0 a1 a2 a3 : Value} (hv : am_rf a0 = true) (h : am_R E d mX10_readNot k n 45 [a0, a1, a2, a3] (a0 :: st) S iv Q) : am_R E d mX10_readNot k n 44 [a0, a1, a2, a3] st S iv Q := am_aload_n dX10_readNot_44 rfl rfl hv h
theorem sX10_readNot_45 {a0 a1 a2 a3 : Value} (h : am_R E d mX10_readNot k n 47 [a0, a1, a2, a3] (.int 60 :: st) S iv Q) : am_R E d mX10_readNot k n 45 [a0, a1, a2, a3] st S iv Q := am_bipush dX10_readNot_45 (by decide) h
theorem sX10_readNot_47 {ls : List Value} {x1 : Value} {a : Nat} (ha : S.1 a = some (.inl 10)) (hst : (st.map fun v => v.category).sum ≤ 8) (hM : am_M E d mX10_isMarked 0 0 [.ref a, x1] S iv (am_K3 E (d + 1) mX10_readNot k n 47 ls st Q)) : am_R E (d + 1) mX10_readNot k n 47 ls (x1 :: .ref a :: st) S iv Q := am_cV (ci := 10) (M' := mX10_isMarked) (as := [x1]) dX10_readNot_47 rfl rfl rfl wq_854 wq_855 wq_856 wq_808 wq_852 hy_X10_isMarked (by decide) ha hst (by omega) (by omega) hM
theorem sX10_readNot_47_k {ls : List Value} {x1 : Value} {k' n' : Nat} {a : Nat} (ha : S.1 a = some (.inl 10)) (hst : (st.map fun v => v.category).sum ≤ 8) (hM : am_M E d mX10_isMarked k' n' [.ref a, x1] S iv (am_K3 E (d + 1) mX10_readNot k n 47 ls st Q)) : am_R E (d + 1) mX10_readNot (k' + k) (n' + n) 47 ls (x1 :: .ref a :: st) S iv Q := am_cV (ci := 10) (M' := mX10_isMarked) (as := [x1]) dX10_readNot_47 rfl rfl rfl wq_854 wq_855 wq_856 wq_808 wq_852 hy_X10_isMarked (by decide) ha hst (by omega) (by omega) hM
theorem sX10_readNot_50 {ls : List Value} {x : Int32} (kt : ¬ x = 0 → am_R E d mX10_readNot k n 62 ls st S iv Q) (kf : x = 0 → am_R E d mX10_readNot k n 53 ls st S iv Q) : am_R E d mX10_readNot k n 50 ls (.int x :: st) S iv Q := am_if_ne dX10_readNot_50 (by decide) kt kf
theorem sX10_readNot_53 {a0 a1 a2 a3 : Value} (hv : am_rf a0 = true) (h : am_R E d mX10_readNot k n 54 [a0, a1, a2, a3] (a0 :: st) S iv Q) : am_R E d mX10_readNot k n 53 [a0, a1, a2, a3] st S iv Q := am_aload_n dX10_readNot_53 rfl rfl hv h
theorem sX10_readNot_54 {a0 a1 a2 a3 : Value} (h : am_R E d mX10_readNot k n 56 [a0, a1, a2, a3] (.int 61 :: st) S iv Q) : am_R E d mX10_readNot k n 54 [a0, a1, a2, a3] st S iv Q := am_bipush dX10_readNot_54 (by decide) h
theorem sX10_readNot_56 {ls : List Value} {x1 : Value} {a : Nat} (ha : S.1 a = some (.inl 10)) (hst : (st.map fun v => v.category).sum ≤ 8) (hM : am_M E d mX10_isMarked 0 0 [.ref a, x1] S iv (am_K3 E (d + 1) mX10_readNot k n 56 ls st Q)) : am_R E (d + 1) mX10_readNot k n 56 ls (x1 :: .ref a :: st) S iv Q := am_cV (ci := 10) (M' := mX10_isMarked) (as := [x1]) dX10_readNot_56 rfl rfl rfl wq_854 wq_855 wq_856 wq_808 wq_852 hy_X10_isMarked (by decide) ha hst (by omega) (by omega) hM
theorem sX10_readNot_56_k {ls : List Value} {x1 : Value} {k' n' : Nat} {a : Nat} (ha : S.1 a = some (.inl 10)) (hst : (st.map fun v => v.category).sum ≤ 8) (hM : am_M E d mX10_isMarked k' n' [.ref a, x1] S iv (am_K3 E (d + 1) mX10_readNot k n 56 ls st Q)) : am_R E (d + 1) mX10_readNot (k' + k) (n' + n) 56 ls (x1 :: .ref a :: st) S iv Q := am_cV (ci := 10) (M' := mX10_isMarked) (as := [x1]) dX10_readNot_56 rfl rfl rfl wq_854 wq_855 wq_856 wq_808 wq_852 hy_X10_isMarked (by decide) ha hst (by omega) (by omega) hM
theorem sX10_readNot_59 {ls : List Value} {x : Int32} (kt : x = 0 → am_R E d mX10_readNot k n 93 ls st S iv Q) (kf : ¬ x = 0 → am_R E d mX10_readNot k n 62 ls st S iv Q) : am_R E d mX10_readNot k n 59 ls (.int x :: st) S iv Q := am_if_eq dX10_readNot_59 (by decide) kt kf
theorem sX10_readNot_62 {a0 a1 a2 a3 : Value} (hv : am_rf a0 = true) (h : am_R E d mX10_readNot k n 63 [a0, a1, a2, a3] (a0 :: st) S iv Q) : am_R E d mX10_readNot k n 62 [a0, a1, a2, a3] st S iv Q := am_aload_n dX10_readNot_62 rfl rfl hv h
theorem sX10_readNot_63 {a0 a1 a2 a3 : Value} (h : am_R E d mX10_readNot k n 65 [a0, a1, a2, a3] (.int 60 :: st) S iv Q) : am_R E d mX10_readNot k n 63 [a0, a1, a2, a3] st S iv Q := am_bipush dX10_readNot_63 (by decide) h
theorem sX10_readNot_65 {ls : List Value} {x1 : Value} {a : Nat} (ha : S.1 a = some (.inl 10)) (hst : (st.map fun v => v.category).sum ≤ 8) (hM : am_M E d mX10_isMarked 0 0 [.ref a, x1] S iv (am_K3 E (d + 1) mX10_readNot k n 65 ls st Q)) : am_R E (d + 1) mX10_readNot k n 65 ls (x1 :: .ref a :: st) S iv Q := am_cV (ci := 10) (M' := mX10_isMarked) (as := [x1]) dX10_readNot_65 rfl rfl rfl wq_854 wq_855 wq_856 wq_808 wq_852 hy_X10_isMarked (by decide) ha hst (by omega) (by omega) hM
theorem sX10_readNot_65_k {ls : List Value} {x1 : Value} {k' n' : Nat} {a : Nat} (ha : S.1 a = some (.inl 10)) (hst : (st.map fun v => v.category).sum ≤ 8) (hM : am_M E d mX10_isMarked k' n' [.ref a, x1] S iv (am_K3 E (d + 1) mX10_readNot k n 65 ls st Q)) : am_R E (d + 1) mX10_readNot (k' + k) (n' + n) 65 ls (x1 :: .ref a :: st) S iv Q := am_cV (ci := 10) (M' := mX10_isMarked) (as := [x1]) dX10_readNot_65 rfl rfl rfl wq_854 wq_855 wq_856 wq_808 wq_852 hy_X10_isMarked (by decide) ha hst (by omega) (by omega) hM
theorem sX10_readNot_68 {ls : List Value} {x : Int32} (kt : x = 0 → am_R E d mX10_readNot k n 76 ls st S iv Q) (kf : ¬ x = 0 → am_R E d mX10_readNot k n 71 ls st S iv Q) : am_R E d mX10_readNot k n 68 ls (.int x :: st) S iv Q := am_if_eq dX10_readNot_68 (by decide) kt kf
theorem sX10_readNot_71 {a0 a1 a2 a3 : Value} (h : am_R E d mX10_readNot k n 73 [a0, a1, a2, a3] (.int (-24) :: st) S iv Q) : am_R E d mX10_readNot k n 71 [a0, a1, a2, a3] st S iv Q := am_bipush dX10_readNot_71 (by decide) h
theorem sX10_readNot_73 {ls : List Value} (h : am_R E d mX10_readNot k n 78 ls st S iv Q) : am_R E d mX10_readNot k n 73 ls st S iv Q := am_goto dX10_readNot_73 (by decide) h
theorem sX10_readNot_76 {a0 a1 a2 a3 : Value} (h : am_R E d mX10_readNot k n 78 [a0, a1, a2, a3] (.int (-25) :: st) S iv Q) : am_R E d mX10_readNot k n 76 [a0, a1, a2, a3] st S iv Q := am_bipush dX10_readNot_76 (by decide) h
theorem sX10_readNot_78 {a0 a1 a2 a3 : Value} {x : Int32} (h : am_R E d mX10_readNot k n 79 [a0, a1, a2, .int x] st S iv Q) : am_R E d mX10_readNot k n 78 [a0, a1, a2, a3] (.int x :: st) S iv Q := am_istore_n dX10_readNot_78 rfl (by decide) h
theorem sX10_readNot_79 {a0 a1 a2 a3 : Value} (hv : am_rf a0 = true) (h : am_R E d mX10_readNot k n 80 [a0, a1, a2, a3] (a0 :: st) S iv Q) : am_R E d mX10_readNot k n 79 [a0, a1, a2, a3] st S iv Q := am_aload_n dX10_readNot_79 rfl rfl hv h
theorem sX10_readNot_80 {ls : List Value} {a : Nat} (ha : S.1 a = some (.inl 10)) (hst : (st.map fun v => v.category).sum ≤ 8) (hM : am_M E d mX10_stepOn 0 0 [.ref a] S iv (am_K3 E (d + 1) mX10_readNot k n 80 ls st Q)) : am_R E (d + 1) mX10_readNot k n 80 ls (.ref a :: st) S iv Q := am_cV (ci := 10) (M' := mX10_stepOn) (as := []) dX10_readNot_80 rfl rfl rfl wq_849 wq_850 wq_851 wq_808 wq_847 hy_X10_stepOn (by decide) ha hst (by omega) (by omega) hM
theorem sX10_readNot_80_k {ls : List Value} {k' n' : Nat} {a : Nat} (ha : S.1 a = some (.inl 10)) (hst : (st.map fun v => v.category).sum ≤ 8) (hM : am_M E d mX10_stepOn k' n' [.ref a] S iv (am_K3 E (d + 1) mX10_readNot k n 80 ls st Q)) : am_R E (d + 1) mX10_readNot (k' + k) (n' + n) 80 ls (.ref a :: st) S iv Q := am_cV (ci := 10) (M' := mX10_stepOn) (as := []) dX10_readNot_80 rfl rfl rfl wq_849 wq_850 wq_851 wq_808 wq_847 hy_X10_stepOn (by decide) ha hst (by omega) (by omega) hM
theorem sX10_readNot_83 {a0 a1 a2 a3 : Value} (hv : am_rf a0 = true) (h : am_R E d mX10_readNot k n 84 [a0, a1, a2, a3] (a0 :: st) S iv Q) : am_R E d mX10_readNot k n 83 [a0, a1, a2, a3] st S iv Q := am_aload_n dX10_readNot_83 rfl rfl hv h
theorem sX10_readNot_84 {a0 a2 a3 : Value} {x : Int32} (h : am_R E d mX10_readNot k n 85 [a0, .int x, a2, a3] (.int x :: st) S iv Q) : am_R E d mX10_readNot k n 84 [a0, .int x, a2, a3] st S iv Q := am_iload_n dX10_readNot_84 rfl rfl h
theorem sX10_readNot_85 {ls : List Value} {x1 : Value} {a : Nat} (ha : S.1 a = some (.inl 10)) (hst : (st.map fun v => v.category).sum ≤ 8) (hM : am_M E d mX10_readSum 0 0 [.ref a, x1] S iv (am_K3 E (d + 1) mX10_readNot k n 85 ls st Q)) : am_R E (d + 1) mX10_readNot k n 85 ls (x1 :: .ref a :: st) S iv Q := am_cV (ci := 10) (M' := mX10_readSum) (as := [x1]) dX10_readNot_85 rfl rfl rfl wq_905 wq_906 wq_907 wq_808 wq_903 hy_X10_readSum (by decide) ha hst (by omega) (by omega) hM
theorem sX10_readNot_85_k {ls : List Value} {x1 : Value} {k' n' : Nat} {a : Nat} (ha : S.1 a = some (.inl 10)) (hst : (st.map fun v => v.category).sum ≤ 8) (hM : am_M E d mX10_readSum k' n' [.ref a, x1] S iv (am_K3 E (d + 1) mX10_readNot k n 85 ls st Q)) : am_R E (d + 1) mX10_readNot (k' + k) (n' + n) 85 ls (x1 :: .ref a :: st) S iv Q := am_cV (ci := 10) (M' := mX10_readSum) (as := [x1]) dX10_readNot_85 rfl rfl rfl wq_905 wq_906 wq_907 wq_808 wq_903 hy_X10_readSum (by decide) ha hst (by omega) (by omega) hM
theorem sX10_readNot_88 {a0 a1 a2 a3 : Value} (hv : am_rf a0 = true) (h : am_R E d mX10_readNot k n 89 [a0, a1, a2, a3] (a0 :: st) S iv Q) : am_R E d mX10_readNot k n 88 [a0, a1, a2, a3] st S iv Q := am_aload_n dX10_readNot_88 rfl rfl hv h
theorem sX10_readNot_89 {a0 a1 a2 : Value} {x : Int32} (h : am_R E d mX10_readNot k n 90 [a0, a1, a2, .int x] (.int x :: st) S iv Q) : am_R E d mX10_readNot k n 89 [a0, a1, a2, .int x] st S iv Q := am_iload_n dX10_readNot_89 rfl rfl h
theorem sX10_readNot_90 {ls : List Value} {x1 : Value} {a : Nat} (ha : S.1 a = some (.inl 10)) (hst : (st.map fun v => v.category).sum ≤ 8) (hM : am_M E d mX10_lay 0 0 [.ref a, x1] S iv (am_K3 E (d + 1) mX10_readNot k n 90 ls st Q)) : am_R E (d + 1) mX10_readNot k n 90 ls (x1 :: .ref a :: st) S iv Q := am_cV (ci := 10) (M' := mX10_lay) (as := [x1]) dX10_readNot_90 rfl rfl rfl wq_875 wq_876 wq_877 wq_808 wq_873 hy_X10_lay (by decide) ha hst (by omega) (by omega) hM
theorem sX10_readNot_90_k {ls : List Value} {x1 : Value} {k' n' : Nat} {a : Nat} (ha : S.1 a = some (.inl 10)) (hst : (st.map fun v => v.category).sum ≤ 8) (hM : am_M E d mX10_lay k' n' [.ref a, x1] S iv (am_K3 E (d + 1) mX10_readNot k n 90 ls st Q)) : am_R E (d + 1) mX10_readNot (k' + k) (n' + n) 90 ls (x1 :: .ref a :: st) S iv Q := am_cV (ci := 10) (M' := mX10_lay) (as := [x1]) dX10_readNot_90 rfl rfl rfl wq_875 wq_876 wq_877 wq_808 wq_873 hy_X10_lay (by decide) ha hst (by omega) (by omega) hM
theorem sX10_readNot_93 {a0 a1 a2 a3 : Value} (h : am_R E d mX10_readNot k n 94 [a0, a1, a2, a3] (.int 0 :: st) S iv Q) : am_R E d mX10_readNot k n 93 [a0, a1, a2, a3] st S iv Q := am_iconst dX10_readNot_93 (by decide) h
theorem sX10_readNot_94 {a0 a1 a2 a3 : Value} {x : Int32} (h : am_R E d mX10_readNot k n 95 [a0, a1, a2, .int x] st S iv Q) : am_R E d mX10_readNot k n 94 [a0, a1, a2, a3] (.int x :: st) S iv Q := am_istore_n dX10_readNot_94 rfl (by decide) h
theorem sX10_readNot_95 {a0 a1 a2 : Value} {x : Int32} (h : am_R E d mX10_readNot k n 96 [a0, a1, a2, .int x] (.int x :: st) S iv Q) : am_R E d mX10_readNot k n 95 [a0, a1, a2, .int x] st S iv Q := am_iload_n dX10_readNot_95 rfl rfl h
theorem sX10_readNot_96 {a0 a1 a3 : Value} {x : Int32} (h : am_R E d mX10_readNot k n 97 [a0, a1, .int x, a3] (.int x :: st) S iv Q) : am_R E d mX10_readNot k n 96 [a0, a1, .int x, a3] st S iv Q := am_iload_n dX10_readNot_96 rfl rfl h
theorem sX10_readNot_97 {ls : List Value} {x y : Int32} (kt : y ≤ x → am_R E d mX10_readNot k n 112 ls st S iv Q) (kf : ¬ y ≤ x → am_R E d mX10_readNot k n 100 ls st S iv Q) : am_R E d mX10_readNot k n 97 ls (.int y :: .int x :: st) S iv Q := am_icmp_ge dX10_readNot_97 (by decide) kt kf
theorem sX10_readNot_100 {a0 a1 a2 a3 : Value} (hv : am_rf a0 = true) (h : am_R E d mX10_readNot k n 101 [a0, a1, a2, a3] (a0 :: st) S iv Q) : am_R E d mX10_readNot k n 100 [a0, a1, a2, a3] st S iv Q := am_aload_n dX10_readNot_100 rfl rfl hv h
theorem sX10_readNot_101 {a0 a1 a2 a3 : Value} (h : am_R E d mX10_readNot k n 103 [a0, a1, a2, a3] (.int (-28) :: st) S iv Q) : am_R E d mX10_readNot k n 101 [a0, a1, a2, a3] st S iv Q := am_bipush dX10_readNot_101 (by decide) h
theorem sX10_readNot_103 {ls : List Value} {x1 : Value} {a : Nat} (ha : S.1 a = some (.inl 10)) (hst : (st.map fun v => v.category).sum ≤ 8) (hM : am_M E d mX10_lay 0 0 [.ref a, x1] S iv (am_K3 E (d + 1) mX10_readNot k n 103 ls st Q)) : am_R E (d + 1) mX10_readNot k n 103 ls (x1 :: .ref a :: st) S iv Q := am_cV (ci := 10) (M' := mX10_lay) (as := [x1]) dX10_readNot_103 rfl rfl rfl wq_875 wq_876 wq_877 wq_808 wq_873 hy_X10_lay (by decide) ha hst (by omega) (by omega) hM
theorem sX10_readNot_103_k {ls : List Value} {x1 : Value} {k' n' : Nat} {a : Nat} (ha : S.1 a = some (.inl 10)) (hst : (st.map fun v => v.category).sum ≤ 8) (hM : am_M E d mX10_lay k' n' [.ref a, x1] S iv (am_K3 E (d + 1) mX10_readNot k n 103 ls st Q)) : am_R E (d + 1) mX10_readNot (k' + k) (n' + n) 103 ls (x1 :: .ref a :: st) S iv Q := am_cV (ci := 10) (M' := mX10_lay) (as := [x1]) dX10_readNot_103 rfl rfl rfl wq_875 wq_876 wq_877 wq_808 wq_873 hy_X10_lay (by decide) ha hst (by omega) (by omega) hM
theorem sX10_readNot_106 {a0 a1 a2 : Value} {x : Int32} (h : am_R E d mX10_readNot k n 109 [a0, a1, a2, .int (x + 1)] st S iv Q) : am_R E d mX10_readNot k n 106 [a0, a1, a2, .int x] st S iv Q := am_iinc dX10_readNot_106 rfl rfl (by decide) h
theorem sX10_readNot_109 {ls : List Value} (h : am_R E d mX10_readNot k n 95 ls st S iv Q) : am_R E d mX10_readNot k n 109 ls st S iv Q := am_goto dX10_readNot_109 (by decide) h
theorem sX10_readNot_112 {ls : List Value} (h : Q (.inl none) S iv) : am_R E d mX10_readNot k n 112 ls [] S iv Q := am_return dX10_readNot_112 rfl h
theorem dX10_readAnd_0 : decode cX10_readAnd 0 = .ok (.aload_n 0, 1) := by decide +kernel
theorem dX10_readAnd_1 : decode cX10_readAnd 1 = .ok (.iload_n 1, 1) := by decide +kernel
theorem dX10_readAnd_2 : decode cX10_readAnd 2 = .ok (.invokevirtual 252, 3) := by decide +kernel
theorem dX10_readAnd_5 : decode cX10_readAnd 5 = .ok (.aload_n 0, 1) := by decide +kernel
theorem dX10_readAnd_6 : decode cX10_readAnd 6 = .ok (.ldc 255, 2) := by decide +kernel
theorem dX10_readAnd_8 : decode cX10_readAnd 8 = .ok (.invokevirtual 205, 3) := by decide +kernel
theorem dX10_readAnd_11 : decode cX10_readAnd 11 = .ok (.ifCond .eq 21, 3) := by decide +kernel
theorem dX10_readAnd_14 : decode cX10_readAnd 14 = .ok (.aload_n 0, 1) := by decide +kernel
theorem dX10_readAnd_15 : decode cX10_readAnd 15 = .ok (.invokevirtual 209, 3) := by decide +kernel
theorem dX10_readAnd_18 : decode cX10_readAnd 18 = .ok (.aload_n 0, 1) := by decide +kernel
theorem dX10_readAnd_19 : decode cX10_readAnd 19 = .ok (.iload_n 1, 1) := by decide +kernel
theorem dX10_readAnd_20 : decode cX10_readAnd 20 = .ok (.invokevirtual 252, 3) := by decide +kernel
theorem dX10_readAnd_23 : decode cX10_readAnd 23 = .ok (.aload_n 0, 1) := by decide +kernel
theorem dX10_readAnd_24 : decode cX10_readAnd 24 = .ok (.bipush (-26), 2) := by decide +kernel
theorem dX10_readAnd_26 : decode cX10_readAnd 26 = .ok (.invokevirtual 228, 3) := by decide +kernel
theorem dX10_readAnd_29 : decode cX10_readAnd 29 = .ok (.goto (-24), 3) := by decide +kernel
theorem dX10_readAnd_32 : decode cX10_readAnd 32 = .ok (.return_, 1) := by decide +kernel
theorem sX10_readAnd_0 {a0 a1 : Value} (hv : am_rf a0 = true) (h : am_R E d mX10_readAnd k n 1 [a0, a1] (a0 :: st) S iv Q) : am_R E d mX10_readAnd k n 0 [a0, a1] st S iv Q := am_aload_n dX10_readAnd_0 rfl rfl hv h
theorem sX10_readAnd_1 {a0 : Value} {x : Int32} (h : am_R E d mX10_readAnd k n 2 [a0, .int x] (.int x :: st) S iv Q) : am_R E d mX10_readAnd k n 1 [a0, .int x] st S iv Q := am_iload_n dX10_readAnd_1 rfl rfl h
theorem sX10_readAnd_2 {ls : List Value} {x1 : Value} {a : Nat} (ha : S.1 a = some (.inl 10)) (hst : (st.map fun v => v.category).sum ≤ 8) (hM : am_M E d mX10_readNot 0 0 [.ref a, x1] S iv (am_K3 E (d + 1) mX10_readAnd k n 2 ls st Q)) : am_R E (d + 1) mX10_readAnd k n 2 ls (x1 :: .ref a :: st) S iv Q := am_cV (ci := 10) (M' := mX10_readNot) (as := [x1]) dX10_readAnd_2 rfl rfl rfl wq_910 wq_911 wq_912 wq_808 wq_908 hy_X10_readNot (by decide) ha hst (by omega) (by omega) hM
theorem sX10_readAnd_2_k {ls : List Value} {x1 : Value} {k' n' : Nat} {a : Nat} (ha : S.1 a = some (.inl 10)) (hst : (st.map fun v => v.category).sum ≤ 8) (hM : am_M E d mX10_readNot k' n' [.ref a, x1] S iv (am_K3 E (d + 1) mX10_readAnd k n 2 ls st Q)) : am_R E (d + 1) mX10_readAnd (k' + k) (n' + n) 2 ls (x1 :: .ref a :: st) S iv Q := am_cV (ci := 10) (M' := mX10_readNot) (as := [x1]) dX10_readAnd_2 rfl rfl rfl wq_910 wq_911 wq_912 wq_808 wq_908 hy_X10_readNot (by decide) ha hst (by omega) (by omega) hM
theorem sX10_readAnd_5 {a0 a1 : Value} (hv : am_rf a0 = true) (h : am_R E d mX10_readAnd k n 6 [a0, a1] (a0 :: st) S iv Q) : am_R E d mX10_readAnd k n 5 [a0, a1] st S iv Q := am_aload_n dX10_readAnd_5 rfl rfl hv h
theorem sX10_readAnd_6 {a0 a1 : Value} (h : am_R E d mX10_readAnd k n 8 [a0, a1] (.retAddr 56 :: st) S iv Q) : am_R E d mX10_readAnd k n 6 [a0, a1] st S iv Q := am_ldcS (tx := "and") dX10_readAnd_6 (List.mem_of_getElem? (i := 56) rfl) h
theorem sX10_readAnd_8 {ls : List Value} {x1 : Value} {a : Nat} (ha : S.1 a = some (.inl 10)) (hst : (st.map fun v => v.category).sum ≤ 8) (hM : am_M E d mX10_is 0 0 [.ref a, x1] S iv (am_K3 E (d + 1) mX10_readAnd k n 8 ls st Q)) : am_R E (d + 1) mX10_readAnd k n 8 ls (x1 :: .ref a :: st) S iv Q := am_cV (ci := 10) (M' := mX10_is) (as := [x1]) dX10_readAnd_8 rfl rfl rfl wq_844 wq_845 wq_846 wq_808 wq_842 hy_X10_is (by decide) ha hst (by omega) (by omega) hM
theorem sX10_readAnd_8_k {ls : List Value} {x1 : Value} {k' n' : Nat} {a : Nat} (ha : S.1 a = some (.inl 10)) (hst : (st.map fun v => v.category).sum ≤ 8) (hM : am_M E d mX10_is k' n' [.ref a, x1] S iv (am_K3 E (d + 1) mX10_readAnd k n 8 ls st Q)) : am_R E (d + 1) mX10_readAnd (k' + k) (n' + n) 8 ls (x1 :: .ref a :: st) S iv Q := am_cV (ci := 10) (M' := mX10_is) (as := [x1]) dX10_readAnd_8 rfl rfl rfl wq_844 wq_845 wq_846 wq_808 wq_842 hy_X10_is (by decide) ha hst (by omega) (by omega) hM
theorem sX10_readAnd_11 {ls : List Value} {x : Int32} (kt : x = 0 → am_R E d mX10_readAnd k n 32 ls st S iv Q) (kf : ¬ x = 0 → am_R E d mX10_readAnd k n 14 ls st S iv Q) : am_R E d mX10_readAnd k n 11 ls (.int x :: st) S iv Q := am_if_eq dX10_readAnd_11 (by decide) kt kf
theorem sX10_readAnd_14 {a0 a1 : Value} (hv : am_rf a0 = true) (h : am_R E d mX10_readAnd k n 15 [a0, a1] (a0 :: st) S iv Q) : am_R E d mX10_readAnd k n 14 [a0, a1] st S iv Q := am_aload_n dX10_readAnd_14 rfl rfl hv h
theorem sX10_readAnd_15 {ls : List Value} {a : Nat} (ha : S.1 a = some (.inl 10)) (hst : (st.map fun v => v.category).sum ≤ 8) (hM : am_M E d mX10_stepOn 0 0 [.ref a] S iv (am_K3 E (d + 1) mX10_readAnd k n 15 ls st Q)) : am_R E (d + 1) mX10_readAnd k n 15 ls (.ref a :: st) S iv Q := am_cV (ci := 10) (M' := mX10_stepOn) (as := []) dX10_readAnd_15 rfl rfl rfl wq_849 wq_850 wq_851 wq_808 wq_847 hy_X10_stepOn (by decide) ha hst (by omega) (by omega) hM
theorem sX10_readAnd_15_k {ls : List Value} {k' n' : Nat} {a : Nat} (ha : S.1 a = some (.inl 10)) (hst : (st.map fun v => v.category).sum ≤ 8) (hM : am_M E d mX10_stepOn k' n' [.ref a] S iv (am_K3 E (d + 1) mX10_readAnd k n 15 ls st Q)) : am_R E (d + 1) mX10_readAnd (k' + k) (n' + n) 15 ls (.ref a :: st) S iv Q := am_cV (ci := 10) (M' := mX10_stepOn) (as := []) dX10_readAnd_15 rfl rfl rfl wq_849 wq_850 wq_851 wq_808 wq_847 hy_X10_stepOn (by decide) ha hst (by omega) (by omega) hM
theorem sX10_readAnd_18 {a0 a1 : Value} (hv : am_rf a0 = true) (h : am_R E d mX10_readAnd k n 19 [a0, a1] (a0 :: st) S iv Q) : am_R E d mX10_readAnd k n 18 [a0, a1] st S iv Q := am_aload_n dX10_readAnd_18 rfl rfl hv h
theorem sX10_readAnd_19 {a0 : Value} {x : Int32} (h : am_R E d mX10_readAnd k n 20 [a0, .int x] (.int x :: st) S iv Q) : am_R E d mX10_readAnd k n 19 [a0, .int x] st S iv Q := am_iload_n dX10_readAnd_19 rfl rfl h
theorem sX10_readAnd_20 {ls : List Value} {x1 : Value} {a : Nat} (ha : S.1 a = some (.inl 10)) (hst : (st.map fun v => v.category).sum ≤ 8) (hM : am_M E d mX10_readNot 0 0 [.ref a, x1] S iv (am_K3 E (d + 1) mX10_readAnd k n 20 ls st Q)) : am_R E (d + 1) mX10_readAnd k n 20 ls (x1 :: .ref a :: st) S iv Q := am_cV (ci := 10) (M' := mX10_readNot) (as := [x1]) dX10_readAnd_20 rfl rfl rfl wq_910 wq_911 wq_912 wq_808 wq_908 hy_X10_readNot (by decide) ha hst (by omega) (by omega) hM
theorem sX10_readAnd_20_k {ls : List Value} {x1 : Value} {k' n' : Nat} {a : Nat} (ha : S.1 a = some (.inl 10)) (hst : (st.map fun v => v.category).sum ≤ 8) (hM : am_M E d mX10_readNot k' n' [.ref a, x1] S iv (am_K3 E (d + 1) mX10_readAnd k n 20 ls st Q)) : am_R E (d + 1) mX10_readAnd (k' + k) (n' + n) 20 ls (x1 :: .ref a :: st) S iv Q := am_cV (ci := 10) (M' := mX10_readNot) (as := [x1]) dX10_readAnd_20 rfl rfl rfl wq_910 wq_911 wq_912 wq_808 wq_908 hy_X10_readNot (by decide) ha hst (by omega) (by omega) hM
theorem sX10_readAnd_23 {a0 a1 : Value} (hv : am_rf a0 = true) (h : am_R E d mX10_readAnd k n 24 [a0, a1] (a0 :: st) S iv Q) : am_R E d mX10_readAnd k n 23 [a0, a1] st S iv Q := am_aload_n dX10_readAnd_23 rfl rfl hv h
theorem sX10_readAnd_24 {a0 a1 : Value} (h : am_R E d mX10_readAnd k n 26 [a0, a1] (.int (-26) :: st) S iv Q) : am_R E d mX10_readAnd k n 24 [a0, a1] st S iv Q := am_bipush dX10_readAnd_24 (by decide) h
theorem sX10_readAnd_26 {ls : List Value} {x1 : Value} {a : Nat} (ha : S.1 a = some (.inl 10)) (hst : (st.map fun v => v.category).sum ≤ 8) (hM : am_M E d mX10_lay 0 0 [.ref a, x1] S iv (am_K3 E (d + 1) mX10_readAnd k n 26 ls st Q)) : am_R E (d + 1) mX10_readAnd k n 26 ls (x1 :: .ref a :: st) S iv Q := am_cV (ci := 10) (M' := mX10_lay) (as := [x1]) dX10_readAnd_26 rfl rfl rfl wq_875 wq_876 wq_877 wq_808 wq_873 hy_X10_lay (by decide) ha hst (by omega) (by omega) hM
theorem sX10_readAnd_26_k {ls : List Value} {x1 : Value} {k' n' : Nat} {a : Nat} (ha : S.1 a = some (.inl 10)) (hst : (st.map fun v => v.category).sum ≤ 8) (hM : am_M E d mX10_lay k' n' [.ref a, x1] S iv (am_K3 E (d + 1) mX10_readAnd k n 26 ls st Q)) : am_R E (d + 1) mX10_readAnd (k' + k) (n' + n) 26 ls (x1 :: .ref a :: st) S iv Q := am_cV (ci := 10) (M' := mX10_lay) (as := [x1]) dX10_readAnd_26 rfl rfl rfl wq_875 wq_876 wq_877 wq_808 wq_873 hy_X10_lay (by decide) ha hst (by omega) (by omega) hM
theorem sX10_readAnd_29 {ls : List Value} (h : am_R E d mX10_readAnd k n 5 ls st S iv Q) : am_R E d mX10_readAnd k n 29 ls st S iv Q := am_goto dX10_readAnd_29 (by decide) h
theorem sX10_readAnd_32 {ls : List Value} (h : Q (.inl none) S iv) : am_R E d mX10_readAnd k n 32 ls [] S iv Q := am_return dX10_readAnd_32 rfl h
theorem dX10_readExpression_0 : decode cX10_readExpression 0 = .ok (.aload_n 0, 1) := by decide +kernel
theorem dX10_readExpression_1 : decode cX10_readExpression 1 = .ok (.getfield 192, 3) := by decide +kernel
theorem dX10_readExpression_4 : decode cX10_readExpression 4 = .ok (.ifCond .eq 4, 3) := by decide +kernel
theorem dX10_readExpression_7 : decode cX10_readExpression 7 = .ok (.return_, 1) := by decide +kernel
theorem dX10_readExpression_8 : decode cX10_readExpression 8 = .ok (.aload_n 0, 1) := by decide +kernel
theorem dX10_readExpression_9 : decode cX10_readExpression 9 = .ok (.getfield 166, 3) := by decide +kernel
theorem dX10_readExpression_12 : decode cX10_readExpression 12 = .ok (.iconst 2, 1) := by decide +kernel
theorem dX10_readExpression_13 : decode cX10_readExpression 13 = .ok (.if_icmp .eq 20, 3) := by decide +kernel
theorem dX10_readExpression_16 : decode cX10_readExpression 16 = .ok (.aload_n 0, 1) := by decide +kernel
theorem dX10_readExpression_17 : decode cX10_readExpression 17 = .ok (.getfield 166, 3) := by decide +kernel
theorem dX10_readExpression_20 : decode cX10_readExpression 20 = .ok (.iconst 1, 1) := by decide +kernel
theorem dX10_readExpression_21 : decode cX10_readExpression 21 = .ok (.if_icmp .eq 12, 3) := by decide +kernel
theorem dX10_readExpression_24 : decode cX10_readExpression 24 = .ok (.aload_n 0, 1) := by decide +kernel
theorem dX10_readExpression_25 : decode cX10_readExpression 25 = .ok (.bipush 40, 2) := by decide +kernel
theorem dX10_readExpression_27 : decode cX10_readExpression 27 = .ok (.invokevirtual 212, 3) := by decide +kernel
theorem dX10_readExpression_30 : decode cX10_readExpression 30 = .ok (.ifCond .eq 7, 3) := by decide +kernel
theorem dX10_readExpression_33 : decode cX10_readExpression 33 = .ok (.iconst 1, 1) := by decide +kernel
theorem dX10_readExpression_34 : decode cX10_readExpression 34 = .ok (.goto 4, 3) := by decide +kernel
theorem dX10_readExpression_37 : decode cX10_readExpression 37 = .ok (.iconst 0, 1) := by decide +kernel
theorem dX10_readExpression_38 : decode cX10_readExpression 38 = .ok (.istore_n 2, 1) := by decide +kernel
theorem dX10_readExpression_39 : decode cX10_readExpression 39 = .ok (.iload_n 2, 1) := by decide +kernel
theorem dX10_readExpression_40 : decode cX10_readExpression 40 = .ok (.ifCond .ne 11, 3) := by decide +kernel
theorem dX10_readExpression_43 : decode cX10_readExpression 43 = .ok (.aload_n 0, 1) := by decide +kernel
theorem dX10_readExpression_44 : decode cX10_readExpression 44 = .ok (.iconst 1, 1) := by decide +kernel
theorem dX10_readExpression_45 : decode cX10_readExpression 45 = .ok (.invokevirtual 215, 3) := by decide +kernel
theorem dX10_readExpression_48 : decode cX10_readExpression 48 = .ok (.goto 14, 3) := by decide +kernel
theorem dX10_readExpression_51 : decode cX10_readExpression 51 = .ok (.iload_n 1, 1) := by decide +kernel
theorem dX10_readExpression_52 : decode cX10_readExpression 52 = .ok (.bipush 6, 2) := by decide +kernel
theorem dX10_readExpression_54 : decode cX10_readExpression 54 = .ok (.if_icmp .ne 8, 3) := by decide +kernel
theorem dX10_readExpression_57 : decode cX10_readExpression 57 = .ok (.aload_n 0, 1) := by decide +kernel
theorem dX10_readExpression_58 : decode cX10_readExpression 58 = .ok (.iconst 2, 1) := by decide +kernel
theorem dX10_readExpression_59 : decode cX10_readExpression 59 = .ok (.invokevirtual 215, 3) := by decide +kernel
theorem dX10_readExpression_62 : decode cX10_readExpression 62 = .ok (.aload_n 0, 1) := by decide +kernel
theorem dX10_readExpression_63 : decode cX10_readExpression 63 = .ok (.iload_n 1, 1) := by decide +kernel
theorem dX10_readExpression_64 : decode cX10_readExpression 64 = .ok (.invokevirtual 257, 3) := by decide +kernel
theorem dX10_readExpression_67 : decode cX10_readExpression 67 = .ok (.aload_n 0, 1) := by decide +kernel
theorem dX10_readExpression_68 : decode cX10_readExpression 68 = .ok (.ldc_w 260, 3) := by decide +kernel
theorem dX10_readExpression_71 : decode cX10_readExpression 71 = .ok (.invokevirtual 205, 3) := by decide +kernel
theorem dX10_readExpression_74 : decode cX10_readExpression 74 = .ok (.ifCond .eq 21, 3) := by decide +kernel
theorem dX10_readExpression_77 : decode cX10_readExpression 77 = .ok (.aload_n 0, 1) := by decide +kernel
theorem dX10_readExpression_78 : decode cX10_readExpression 78 = .ok (.invokevirtual 209, 3) := by decide +kernel
theorem dX10_readExpression_81 : decode cX10_readExpression 81 = .ok (.aload_n 0, 1) := by decide +kernel
theorem dX10_readExpression_82 : decode cX10_readExpression 82 = .ok (.iload_n 1, 1) := by decide +kernel
theorem dX10_readExpression_83 : decode cX10_readExpression 83 = .ok (.invokevirtual 257, 3) := by decide +kernel
theorem dX10_readExpression_86 : decode cX10_readExpression 86 = .ok (.aload_n 0, 1) := by decide +kernel
theorem dX10_readExpression_87 : decode cX10_readExpression 87 = .ok (.bipush (-27), 2) := by decide +kernel
theorem dX10_readExpression_89 : decode cX10_readExpression 89 = .ok (.invokevirtual 228, 3) := by decide +kernel
theorem dX10_readExpression_92 : decode cX10_readExpression 92 = .ok (.goto (-25), 3) := by decide +kernel
theorem dX10_readExpression_95 : decode cX10_readExpression 95 = .ok (.return_, 1) := by decide +kernel
theorem sX10_readExpression_0 {a0 a1 a2 : Value} (hv : am_rf a0 = true) (h : am_R E d mX10_readExpression k n 1 [a0, a1, a2] (a0 :: st) S iv Q) : am_R E d mX10_readExpression k n 0 [a0, a1, a2] st S iv Q := am_aload_n dX10_readExpression_0 rfl rfl hv h
theorem sX10_readExpression_1 {ls : List Value} {a : Nat} (ha : S.1 a = some (.inl 10)) (h : am_R E d mX10_readExpression k n 4 ls (.int (iv a 25) :: st) S iv Q) : am_R E d mX10_readExpression k n 1 ls (.ref a :: st) S iv Q := am_getI (ci := 10) dX10_readExpression_1 rfl rfl (by decide) wq_838 uq_10 rfl ha h
theorem sX10_readExpression_4 {ls : List Value} {x : Int32} (kt : x = 0 → am_R E d mX10_readExpression k n 8 ls st S iv Q) (kf : ¬ x = 0 → am_R E d mX10_readExpression k n 7 ls st S iv Q) : am_R E d mX10_readExpression k n 4 ls (.int x :: st) S iv Q := am_if_eq dX10_readExpression_4 (by decide) kt kf
theorem sX10_readExpression_7 {ls : List Value} (h : Q (.inl none) S iv) : am_R E d mX10_readExpression k n 7 ls [] S iv Q := am_return dX10_readExpression_7 rfl h
theorem sX10_readExpression_8 {a0 a1 a2 : Value} (hv : am_rf a0 = true) (h : am_R E d mX10_readExpression k n 9 [a0, a1, a2] (a0 :: st) S iv Q) : am_R E d mX10_readExpression k n 8 [a0, a1, a2] st S iv Q := am_aload_n dX10_readExpression_8 rfl rfl hv h
theorem sX10_readExpression_9 {ls : List Value} {a : Nat} (ha : S.1 a = some (.inl 10)) (h : am_R E d mX10_readExpression k n 12 ls (.int (iv a 21) :: st) S iv Q) : am_R E d mX10_readExpression k n 9 ls (.ref a :: st) S iv Q := am_getI (ci := 10) dX10_readExpression_9 rfl rfl (by decide) wq_821 uq_10 rfl ha h
theorem sX10_readExpression_12 {a0 a1 a2 : Value} (h : am_R E d mX10_readExpression k n 13 [a0, a1, a2] (.int 2 :: st) S iv Q) : am_R E d mX10_readExpression k n 12 [a0, a1, a2] st S iv Q := am_iconst dX10_readExpression_12 (by decide) h
theorem sX10_readExpression_13 {ls : List Value} {x y : Int32} (kt : x = y → am_R E d mX10_readExpression k n 33 ls st S iv Q) (kf : ¬ x = y → am_R E d mX10_readExpression k n 16 ls st S iv Q) : am_R E d mX10_readExpression k n 13 ls (.int y :: .int x :: st) S iv Q := am_icmp_eq dX10_readExpression_13 (by decide) kt kf
theorem sX10_readExpression_16 {a0 a1 a2 : Value} (hv : am_rf a0 = true) (h : am_R E d mX10_readExpression k n 17 [a0, a1, a2] (a0 :: st) S iv Q) : am_R E d mX10_readExpression k n 16 [a0, a1, a2] st S iv Q := am_aload_n dX10_readExpression_16 rfl rfl hv h
theorem sX10_readExpression_17 {ls : List Value} {a : Nat} (ha : S.1 a = some (.inl 10)) (h : am_R E d mX10_readExpression k n 20 ls (.int (iv a 21) :: st) S iv Q) : am_R E d mX10_readExpression k n 17 ls (.ref a :: st) S iv Q := am_getI (ci := 10) dX10_readExpression_17 rfl rfl (by decide) wq_821 uq_10 rfl ha h
theorem sX10_readExpression_20 {a0 a1 a2 : Value} (h : am_R E d mX10_readExpression k n 21 [a0, a1, a2] (.int 1 :: st) S iv Q) : am_R E d mX10_readExpression k n 20 [a0, a1, a2] st S iv Q := am_iconst dX10_readExpression_20 (by decide) h
theorem sX10_readExpression_21 {ls : List Value} {x y : Int32} (kt : x = y → am_R E d mX10_readExpression k n 33 ls st S iv Q) (kf : ¬ x = y → am_R E d mX10_readExpression k n 24 ls st S iv Q) : am_R E d mX10_readExpression k n 21 ls (.int y :: .int x :: st) S iv Q := am_icmp_eq dX10_readExpression_21 (by decide) kt kf
theorem sX10_readExpression_24 {a0 a1 a2 : Value} (hv : am_rf a0 = true) (h : am_R E d mX10_readExpression k n 25 [a0, a1, a2] (a0 :: st) S iv Q) : am_R E d mX10_readExpression k n 24 [a0, a1, a2] st S iv Q := am_aload_n dX10_readExpression_24 rfl rfl hv h
theorem sX10_readExpression_25 {a0 a1 a2 : Value} (h : am_R E d mX10_readExpression k n 27 [a0, a1, a2] (.int 40 :: st) S iv Q) : am_R E d mX10_readExpression k n 25 [a0, a1, a2] st S iv Q := am_bipush dX10_readExpression_25 (by decide) h
theorem sX10_readExpression_27 {ls : List Value} {x1 : Value} {a : Nat} (ha : S.1 a = some (.inl 10)) (hst : (st.map fun v => v.category).sum ≤ 8) (hM : am_M E d mX10_isMarked 0 0 [.ref a, x1] S iv (am_K3 E (d + 1) mX10_readExpression k n 27 ls st Q)) : am_R E (d + 1) mX10_readExpression k n 27 ls (x1 :: .ref a :: st) S iv Q := am_cV (ci := 10) (M' := mX10_isMarked) (as := [x1]) dX10_readExpression_27 rfl rfl rfl wq_854 wq_855 wq_856 wq_808 wq_852 hy_X10_isMarked (by decide) ha hst (by omega) (by omega) hM
theorem sX10_readExpression_27_k {ls : List Value} {x1 : Value} {k' n' : Nat} {a : Nat} (ha : S.1 a = some (.inl 10)) (hst : (st.map fun v => v.category).sum ≤ 8) (hM : am_M E d mX10_isMarked k' n' [.ref a, x1] S iv (am_K3 E (d + 1) mX10_readExpression k n 27 ls st Q)) : am_R E (d + 1) mX10_readExpression (k' + k) (n' + n) 27 ls (x1 :: .ref a :: st) S iv Q := am_cV (ci := 10) (M' := mX10_isMarked) (as := [x1]) dX10_readExpression_27 rfl rfl rfl wq_854 wq_855 wq_856 wq_808 wq_852 hy_X10_isMarked (by decide) ha hst (by omega) (by omega) hM
theorem sX10_readExpression_30 {ls : List Value} {x : Int32} (kt : x = 0 → am_R E d mX10_readExpression k n 37 ls st S iv Q) (kf : ¬ x = 0 → am_R E d mX10_readExpression k n 33 ls st S iv Q) : am_R E d mX10_readExpression k n 30 ls (.int x :: st) S iv Q := am_if_eq dX10_readExpression_30 (by decide) kt kf
theorem sX10_readExpression_33 {a0 a1 a2 : Value} (h : am_R E d mX10_readExpression k n 34 [a0, a1, a2] (.int 1 :: st) S iv Q) : am_R E d mX10_readExpression k n 33 [a0, a1, a2] st S iv Q := am_iconst dX10_readExpression_33 (by decide) h
theorem sX10_readExpression_34 {ls : List Value} (h : am_R E d mX10_readExpression k n 38 ls st S iv Q) : am_R E d mX10_readExpression k n 34 ls st S iv Q := am_goto dX10_readExpression_34 (by decide) h
theorem sX10_readExpression_37 {a0 a1 a2 : Value} (h : am_R E d mX10_readExpression k n 38 [a0, a1, a2] (.int 0 :: st) S iv Q) : am_R E d mX10_readExpression k n 37 [a0, a1, a2] st S iv Q := am_iconst dX10_readExpression_37 (by decide) h
theorem sX10_readExpression_38 {a0 a1 a2 : Value} {x : Int32} (h : am_R E d mX10_readExpression k n 39 [a0, a1, .int x] st S iv Q) : am_R E d mX10_readExpression k n 38 [a0, a1, a2] (.int x :: st) S iv Q := am_istore_n dX10_readExpression_38 rfl (by decide) h
theorem sX10_readExpression_39 {a0 a1 : Value} {x : Int32} (h : am_R E d mX10_readExpression k n 40 [a0, a1, .int x] (.int x :: st) S iv Q) : am_R E d mX10_readExpression k n 39 [a0, a1, .int x] st S iv Q := am_iload_n dX10_readExpression_39 rfl rfl h
theorem sX10_readExpression_40 {ls : List Value} {x : Int32} (kt : ¬ x = 0 → am_R E d mX10_readExpression k n 51 ls st S iv Q) (kf : x = 0 → am_R E d mX10_readExpression k n 43 ls st S iv Q) : am_R E d mX10_readExpression k n 40 ls (.int x :: st) S iv Q := am_if_ne dX10_readExpression_40 (by decide) kt kf
theorem sX10_readExpression_43 {a0 a1 a2 : Value} (hv : am_rf a0 = true) (h : am_R E d mX10_readExpression k n 44 [a0, a1, a2] (a0 :: st) S iv Q) : am_R E d mX10_readExpression k n 43 [a0, a1, a2] st S iv Q := am_aload_n dX10_readExpression_43 rfl rfl hv h
theorem sX10_readExpression_44 {a0 a1 a2 : Value} (h : am_R E d mX10_readExpression k n 45 [a0, a1, a2] (.int 1 :: st) S iv Q) : am_R E d mX10_readExpression k n 44 [a0, a1, a2] st S iv Q := am_iconst dX10_readExpression_44 (by decide) h
theorem sX10_readExpression_45 {ls : List Value} {x1 : Value} {a : Nat} (ha : S.1 a = some (.inl 10)) (hst : (st.map fun v => v.category).sum ≤ 8) (hM : am_M E d mX10_wrong 0 0 [.ref a, x1] S iv (am_K3 E (d + 1) mX10_readExpression k n 45 ls st Q)) : am_R E (d + 1) mX10_readExpression k n 45 ls (x1 :: .ref a :: st) S iv Q := am_cV (ci := 10) (M' := mX10_wrong) (as := [x1]) dX10_readExpression_45 rfl rfl rfl wq_859 wq_860 wq_861 wq_808 wq_857 hy_X10_wrong (by decide) ha hst (by omega) (by omega) hM
theorem sX10_readExpression_45_k {ls : List Value} {x1 : Value} {k' n' : Nat} {a : Nat} (ha : S.1 a = some (.inl 10)) (hst : (st.map fun v => v.category).sum ≤ 8) (hM : am_M E d mX10_wrong k' n' [.ref a, x1] S iv (am_K3 E (d + 1) mX10_readExpression k n 45 ls st Q)) : am_R E (d + 1) mX10_readExpression (k' + k) (n' + n) 45 ls (x1 :: .ref a :: st) S iv Q := am_cV (ci := 10) (M' := mX10_wrong) (as := [x1]) dX10_readExpression_45 rfl rfl rfl wq_859 wq_860 wq_861 wq_808 wq_857 hy_X10_wrong (by decide) ha hst (by omega) (by omega) hM
theorem sX10_readExpression_48 {ls : List Value} (h : am_R E d mX10_readExpression k n 62 ls st S iv Q) : am_R E d mX10_readExpression k n 48 ls st S iv Q := am_goto dX10_readExpression_48 (by decide) h
theorem sX10_readExpression_51 {a0 a2 : Value} {x : Int32} (h : am_R E d mX10_readExpression k n 52 [a0, .int x, a2] (.int x :: st) S iv Q) : am_R E d mX10_readExpression k n 51 [a0, .int x, a2] st S iv Q := am_iload_n dX10_readExpression_51 rfl rfl h
theorem sX10_readExpression_52 {a0 a1 a2 : Value} (h : am_R E d mX10_readExpression k n 54 [a0, a1, a2] (.int 6 :: st) S iv Q) : am_R E d mX10_readExpression k n 52 [a0, a1, a2] st S iv Q := am_bipush dX10_readExpression_52 (by decide) h
theorem sX10_readExpression_54 {ls : List Value} {x y : Int32} (kt : ¬ x = y → am_R E d mX10_readExpression k n 62 ls st S iv Q) (kf : x = y → am_R E d mX10_readExpression k n 57 ls st S iv Q) : am_R E d mX10_readExpression k n 54 ls (.int y :: .int x :: st) S iv Q := am_icmp_ne dX10_readExpression_54 (by decide) kt kf
theorem sX10_readExpression_57 {a0 a1 a2 : Value} (hv : am_rf a0 = true) (h : am_R E d mX10_readExpression k n 58 [a0, a1, a2] (a0 :: st) S iv Q) : am_R E d mX10_readExpression k n 57 [a0, a1, a2] st S iv Q := am_aload_n dX10_readExpression_57 rfl rfl hv h
theorem sX10_readExpression_58 {a0 a1 a2 : Value} (h : am_R E d mX10_readExpression k n 59 [a0, a1, a2] (.int 2 :: st) S iv Q) : am_R E d mX10_readExpression k n 58 [a0, a1, a2] st S iv Q := am_iconst dX10_readExpression_58 (by decide) h
theorem sX10_readExpression_59 {ls : List Value} {x1 : Value} {a : Nat} (ha : S.1 a = some (.inl 10)) (hst : (st.map fun v => v.category).sum ≤ 8) (hM : am_M E d mX10_wrong 0 0 [.ref a, x1] S iv (am_K3 E (d + 1) mX10_readExpression k n 59 ls st Q)) : am_R E (d + 1) mX10_readExpression k n 59 ls (x1 :: .ref a :: st) S iv Q := am_cV (ci := 10) (M' := mX10_wrong) (as := [x1]) dX10_readExpression_59 rfl rfl rfl wq_859 wq_860 wq_861 wq_808 wq_857 hy_X10_wrong (by decide) ha hst (by omega) (by omega) hM
theorem sX10_readExpression_59_k {ls : List Value} {x1 : Value} {k' n' : Nat} {a : Nat} (ha : S.1 a = some (.inl 10)) (hst : (st.map fun v => v.category).sum ≤ 8) (hM : am_M E d mX10_wrong k' n' [.ref a, x1] S iv (am_K3 E (d + 1) mX10_readExpression k n 59 ls st Q)) : am_R E (d + 1) mX10_readExpression (k' + k) (n' + n) 59 ls (x1 :: .ref a :: st) S iv Q := am_cV (ci := 10) (M' := mX10_wrong) (as := [x1]) dX10_readExpression_59 rfl rfl rfl wq_859 wq_860 wq_861 wq_808 wq_857 hy_X10_wrong (by decide) ha hst (by omega) (by omega) hM
theorem sX10_readExpression_62 {a0 a1 a2 : Value} (hv : am_rf a0 = true) (h : am_R E d mX10_readExpression k n 63 [a0, a1, a2] (a0 :: st) S iv Q) : am_R E d mX10_readExpression k n 62 [a0, a1, a2] st S iv Q := am_aload_n dX10_readExpression_62 rfl rfl hv h
theorem sX10_readExpression_63 {a0 a2 : Value} {x : Int32} (h : am_R E d mX10_readExpression k n 64 [a0, .int x, a2] (.int x :: st) S iv Q) : am_R E d mX10_readExpression k n 63 [a0, .int x, a2] st S iv Q := am_iload_n dX10_readExpression_63 rfl rfl h
theorem sX10_readExpression_64 {ls : List Value} {x1 : Value} {a : Nat} (ha : S.1 a = some (.inl 10)) (hst : (st.map fun v => v.category).sum ≤ 8) (hM : am_M E d mX10_readAnd 0 0 [.ref a, x1] S iv (am_K3 E (d + 1) mX10_readExpression k n 64 ls st Q)) : am_R E (d + 1) mX10_readExpression k n 64 ls (x1 :: .ref a :: st) S iv Q := am_cV (ci := 10) (M' := mX10_readAnd) (as := [x1]) dX10_readExpression_64 rfl rfl rfl wq_915 wq_916 wq_917 wq_808 wq_913 hy_X10_readAnd (by decide) ha hst (by omega) (by omega) hM
theorem sX10_readExpression_64_k {ls : List Value} {x1 : Value} {k' n' : Nat} {a : Nat} (ha : S.1 a = some (.inl 10)) (hst : (st.map fun v => v.category).sum ≤ 8) (hM : am_M E d mX10_readAnd k' n' [.ref a, x1] S iv (am_K3 E (d + 1) mX10_readExpression k n 64 ls st Q)) : am_R E (d + 1) mX10_readExpression (k' + k) (n' + n) 64 ls (x1 :: .ref a :: st) S iv Q := am_cV (ci := 10) (M' := mX10_readAnd) (as := [x1]) dX10_readExpression_64 rfl rfl rfl wq_915 wq_916 wq_917 wq_808 wq_913 hy_X10_readAnd (by decide) ha hst (by omega) (by omega) hM
theorem sX10_readExpression_67 {a0 a1 a2 : Value} (hv : am_rf a0 = true) (h : am_R E d mX10_readExpression k n 68 [a0, a1, a2] (a0 :: st) S iv Q) : am_R E d mX10_readExpression k n 67 [a0, a1, a2] st S iv Q := am_aload_n dX10_readExpression_67 rfl rfl hv h
theorem sX10_readExpression_68 {a0 a1 a2 : Value} (h : am_R E d mX10_readExpression k n 71 [a0, a1, a2] (.retAddr 57 :: st) S iv Q) : am_R E d mX10_readExpression k n 68 [a0, a1, a2] st S iv Q := am_ldcSw (tx := "or") dX10_readExpression_68 (List.mem_of_getElem? (i := 57) rfl) h
theorem sX10_readExpression_71 {ls : List Value} {x1 : Value} {a : Nat} (ha : S.1 a = some (.inl 10)) (hst : (st.map fun v => v.category).sum ≤ 8) (hM : am_M E d mX10_is 0 0 [.ref a, x1] S iv (am_K3 E (d + 1) mX10_readExpression k n 71 ls st Q)) : am_R E (d + 1) mX10_readExpression k n 71 ls (x1 :: .ref a :: st) S iv Q := am_cV (ci := 10) (M' := mX10_is) (as := [x1]) dX10_readExpression_71 rfl rfl rfl wq_844 wq_845 wq_846 wq_808 wq_842 hy_X10_is (by decide) ha hst (by omega) (by omega) hM
theorem sX10_readExpression_71_k {ls : List Value} {x1 : Value} {k' n' : Nat} {a : Nat} (ha : S.1 a = some (.inl 10)) (hst : (st.map fun v => v.category).sum ≤ 8) (hM : am_M E d mX10_is k' n' [.ref a, x1] S iv (am_K3 E (d + 1) mX10_readExpression k n 71 ls st Q)) : am_R E (d + 1) mX10_readExpression (k' + k) (n' + n) 71 ls (x1 :: .ref a :: st) S iv Q := am_cV (ci := 10) (M' := mX10_is) (as := [x1]) dX10_readExpression_71 rfl rfl rfl wq_844 wq_845 wq_846 wq_808 wq_842 hy_X10_is (by decide) ha hst (by omega) (by omega) hM
theorem sX10_readExpression_74 {ls : List Value} {x : Int32} (kt : x = 0 → am_R E d mX10_readExpression k n 95 ls st S iv Q) (kf : ¬ x = 0 → am_R E d mX10_readExpression k n 77 ls st S iv Q) : am_R E d mX10_readExpression k n 74 ls (.int x :: st) S iv Q := am_if_eq dX10_readExpression_74 (by decide) kt kf
theorem sX10_readExpression_77 {a0 a1 a2 : Value} (hv : am_rf a0 = true) (h : am_R E d mX10_readExpression k n 78 [a0, a1, a2] (a0 :: st) S iv Q) : am_R E d mX10_readExpression k n 77 [a0, a1, a2] st S iv Q := am_aload_n dX10_readExpression_77 rfl rfl hv h
theorem sX10_readExpression_78 {ls : List Value} {a : Nat} (ha : S.1 a = some (.inl 10)) (hst : (st.map fun v => v.category).sum ≤ 8) (hM : am_M E d mX10_stepOn 0 0 [.ref a] S iv (am_K3 E (d + 1) mX10_readExpression k n 78 ls st Q)) : am_R E (d + 1) mX10_readExpression k n 78 ls (.ref a :: st) S iv Q := am_cV (ci := 10) (M' := mX10_stepOn) (as := []) dX10_readExpression_78 rfl rfl rfl wq_849 wq_850 wq_851 wq_808 wq_847 hy_X10_stepOn (by decide) ha hst (by omega) (by omega) hM
theorem sX10_readExpression_78_k {ls : List Value} {k' n' : Nat} {a : Nat} (ha : S.1 a = some (.inl 10)) (hst : (st.map fun v => v.category).sum ≤ 8) (hM : am_M E d mX10_stepOn k' n' [.ref a] S iv (am_K3 E (d + 1) mX10_readExpression k n 78 ls st Q)) : am_R E (d + 1) mX10_readExpression (k' + k) (n' + n) 78 ls (.ref a :: st) S iv Q := am_cV (ci := 10) (M' := mX10_stepOn) (as := []) dX10_readExpression_78 rfl rfl rfl wq_849 wq_850 wq_851 wq_808 wq_847 hy_X10_stepOn (by decide) ha hst (by omega) (by omega) hM
theorem sX10_readExpression_81 {a0 a1 a2 : Value} (hv : am_rf a0 = true) (h : am_R E d mX10_readExpression k n 82 [a0, a1, a2] (a0 :: st) S iv Q) : am_R E d mX10_readExpression k n 81 [a0, a1, a2] st S iv Q := am_aload_n dX10_readExpression_81 rfl rfl hv h
theorem sX10_readExpression_82 {a0 a2 : Value} {x : Int32} (h : am_R E d mX10_readExpression k n 83 [a0, .int x, a2] (.int x :: st) S iv Q) : am_R E d mX10_readExpression k n 82 [a0, .int x, a2] st S iv Q := am_iload_n dX10_readExpression_82 rfl rfl h
theorem sX10_readExpression_83 {ls : List Value} {x1 : Value} {a : Nat} (ha : S.1 a = some (.inl 10)) (hst : (st.map fun v => v.category).sum ≤ 8) (hM : am_M E d mX10_readAnd 0 0 [.ref a, x1] S iv (am_K3 E (d + 1) mX10_readExpression k n 83 ls st Q)) : am_R E (d + 1) mX10_readExpression k n 83 ls (x1 :: .ref a :: st) S iv Q := am_cV (ci := 10) (M' := mX10_readAnd) (as := [x1]) dX10_readExpression_83 rfl rfl rfl wq_915 wq_916 wq_917 wq_808 wq_913 hy_X10_readAnd (by decide) ha hst (by omega) (by omega) hM
theorem sX10_readExpression_83_k {ls : List Value} {x1 : Value} {k' n' : Nat} {a : Nat} (ha : S.1 a = some (.inl 10)) (hst : (st.map fun v => v.category).sum ≤ 8) (hM : am_M E d mX10_readAnd k' n' [.ref a, x1] S iv (am_K3 E (d + 1) mX10_readExpression k n 83 ls st Q)) : am_R E (d + 1) mX10_readExpression (k' + k) (n' + n) 83 ls (x1 :: .ref a :: st) S iv Q := am_cV (ci := 10) (M' := mX10_readAnd) (as := [x1]) dX10_readExpression_83 rfl rfl rfl wq_915 wq_916 wq_917 wq_808 wq_913 hy_X10_readAnd (by decide) ha hst (by omega) (by omega) hM
theorem sX10_readExpression_86 {a0 a1 a2 : Value} (hv : am_rf a0 = true) (h : am_R E d mX10_readExpression k n 87 [a0, a1, a2] (a0 :: st) S iv Q) : am_R E d mX10_readExpression k n 86 [a0, a1, a2] st S iv Q := am_aload_n dX10_readExpression_86 rfl rfl hv h
theorem sX10_readExpression_87 {a0 a1 a2 : Value} (h : am_R E d mX10_readExpression k n 89 [a0, a1, a2] (.int (-27) :: st) S iv Q) : am_R E d mX10_readExpression k n 87 [a0, a1, a2] st S iv Q := am_bipush dX10_readExpression_87 (by decide) h
theorem sX10_readExpression_89 {ls : List Value} {x1 : Value} {a : Nat} (ha : S.1 a = some (.inl 10)) (hst : (st.map fun v => v.category).sum ≤ 8) (hM : am_M E d mX10_lay 0 0 [.ref a, x1] S iv (am_K3 E (d + 1) mX10_readExpression k n 89 ls st Q)) : am_R E (d + 1) mX10_readExpression k n 89 ls (x1 :: .ref a :: st) S iv Q := am_cV (ci := 10) (M' := mX10_lay) (as := [x1]) dX10_readExpression_89 rfl rfl rfl wq_875 wq_876 wq_877 wq_808 wq_873 hy_X10_lay (by decide) ha hst (by omega) (by omega) hM
theorem sX10_readExpression_89_k {ls : List Value} {x1 : Value} {k' n' : Nat} {a : Nat} (ha : S.1 a = some (.inl 10)) (hst : (st.map fun v => v.category).sum ≤ 8) (hM : am_M E d mX10_lay k' n' [.ref a, x1] S iv (am_K3 E (d + 1) mX10_readExpression k n 89 ls st Q)) : am_R E (d + 1) mX10_readExpression (k' + k) (n' + n) 89 ls (x1 :: .ref a :: st) S iv Q := am_cV (ci := 10) (M' := mX10_lay) (as := [x1]) dX10_readExpression_89 rfl rfl rfl wq_875 wq_876 wq_877 wq_808 wq_873 hy_X10_lay (by decide) ha hst (by omega) (by omega) hM
theorem sX10_readExpression_92 {ls : List Value} (h : am_R E d mX10_readExpression k n 67 ls st S iv Q) : am_R E d mX10_readExpression k n 92 ls st S iv Q := am_goto dX10_readExpression_92 (by decide) h
theorem sX10_readExpression_95 {ls : List Value} (h : Q (.inl none) S iv) : am_R E d mX10_readExpression k n 95 ls [] S iv Q := am_return dX10_readExpression_95 rfl h
theorem dX10_isTaken_0 : decode cX10_isTaken 0 = .ok (.bipush 10, 2) := by decide +kernel
theorem dX10_isTaken_2 : decode cX10_isTaken 2 = .ok (.istore 4, 2) := by decide +kernel
theorem dX10_isTaken_4 : decode cX10_isTaken 4 = .ok (.iload 4, 2) := by decide +kernel
theorem dX10_isTaken_6 : decode cX10_isTaken 6 = .ok (.bipush 10, 2) := by decide +kernel
theorem dX10_isTaken_8 : decode cX10_isTaken 8 = .ok (.iload_n 3, 1) := by decide +kernel
theorem dX10_isTaken_9 : decode cX10_isTaken 9 = .ok (.iadd, 1) := by decide +kernel
theorem dX10_isTaken_10 : decode cX10_isTaken 10 = .ok (.if_icmp .ge 52, 3) := by decide +kernel
theorem dX10_isTaken_13 : decode cX10_isTaken 13 = .ok (.aload_n 0, 1) := by decide +kernel
theorem dX10_isTaken_14 : decode cX10_isTaken 14 = .ok (.getfield 57, 3) := by decide +kernel
theorem dX10_isTaken_17 : decode cX10_isTaken 17 = .ok (.iload 4, 2) := by decide +kernel
theorem dX10_isTaken_19 : decode cX10_isTaken 19 = .ok (.iaload, 1) := by decide +kernel
theorem dX10_isTaken_20 : decode cX10_isTaken 20 = .ok (.iload_n 2, 1) := by decide +kernel
theorem dX10_isTaken_21 : decode cX10_isTaken 21 = .ok (.if_icmp .ne 35, 3) := by decide +kernel
theorem dX10_isTaken_24 : decode cX10_isTaken 24 = .ok (.iload_n 1, 1) := by decide +kernel
theorem dX10_isTaken_25 : decode cX10_isTaken 25 = .ok (.aload_n 0, 1) := by decide +kernel
theorem dX10_isTaken_26 : decode cX10_isTaken 26 = .ok (.getfield 55, 3) := by decide +kernel
theorem dX10_isTaken_29 : decode cX10_isTaken 29 = .ok (.iload 4, 2) := by decide +kernel
theorem dX10_isTaken_31 : decode cX10_isTaken 31 = .ok (.iaload, 1) := by decide +kernel
theorem dX10_isTaken_32 : decode cX10_isTaken 32 = .ok (.if_icmp .lt 24, 3) := by decide +kernel
theorem dX10_isTaken_35 : decode cX10_isTaken 35 = .ok (.iload_n 1, 1) := by decide +kernel
theorem dX10_isTaken_36 : decode cX10_isTaken 36 = .ok (.aload_n 0, 1) := by decide +kernel
theorem dX10_isTaken_37 : decode cX10_isTaken 37 = .ok (.getfield 55, 3) := by decide +kernel
theorem dX10_isTaken_40 : decode cX10_isTaken 40 = .ok (.iload 4, 2) := by decide +kernel
theorem dX10_isTaken_42 : decode cX10_isTaken 42 = .ok (.iaload, 1) := by decide +kernel
theorem dX10_isTaken_43 : decode cX10_isTaken 43 = .ok (.aload_n 0, 1) := by decide +kernel
theorem dX10_isTaken_44 : decode cX10_isTaken 44 = .ok (.getfield 61, 3) := by decide +kernel
theorem dX10_isTaken_47 : decode cX10_isTaken 47 = .ok (.iload 4, 2) := by decide +kernel
theorem dX10_isTaken_49 : decode cX10_isTaken 49 = .ok (.iaload, 1) := by decide +kernel
theorem dX10_isTaken_50 : decode cX10_isTaken 50 = .ok (.iadd, 1) := by decide +kernel
theorem dX10_isTaken_51 : decode cX10_isTaken 51 = .ok (.if_icmp .gt 5, 3) := by decide +kernel
theorem dX10_isTaken_54 : decode cX10_isTaken 54 = .ok (.iconst 1, 1) := by decide +kernel
theorem dX10_isTaken_55 : decode cX10_isTaken 55 = .ok (.ireturn, 1) := by decide +kernel
theorem dX10_isTaken_56 : decode cX10_isTaken 56 = .ok (.iinc 4 1, 3) := by decide +kernel
theorem dX10_isTaken_59 : decode cX10_isTaken 59 = .ok (.goto (-55), 3) := by decide +kernel
theorem dX10_isTaken_62 : decode cX10_isTaken 62 = .ok (.iconst 0, 1) := by decide +kernel
theorem dX10_isTaken_63 : decode cX10_isTaken 63 = .ok (.ireturn, 1) := by decide +kernel
theorem sX10_isTaken_0 {a0 a1 a2 a3 a4 : Value} (h : am_R E d mX10_isTaken k n 2 [a0, a1, a2, a3, a4] (.int 10 :: st) S iv Q) : am_R E d mX10_isTaken k n 0 [a0, a1, a2, a3, a4] st S iv Q := am_bipush dX10_isTaken_0 (by decide) h
theorem sX10_isTaken_2 {a0 a1 a2 a3 a4 : Value} {x : Int32} (h : am_R E d mX10_isTaken k n 4 [a0, a1, a2, a3, .int x] st S iv Q) : am_R E d mX10_isTaken k n 2 [a0, a1, a2, a3, a4] (.int x :: st) S iv Q := am_istore dX10_isTaken_2 (by decide) h
theorem sX10_isTaken_4 {a0 a1 a2 a3 : Value} {x : Int32} (h : am_R E d mX10_isTaken k n 6 [a0, a1, a2, a3, .int x] (.int x :: st) S iv Q) : am_R E d mX10_isTaken k n 4 [a0, a1, a2, a3, .int x] st S iv Q := am_iload dX10_isTaken_4 rfl h
theorem sX10_isTaken_6 {a0 a1 a2 a3 a4 : Value} (h : am_R E d mX10_isTaken k n 8 [a0, a1, a2, a3, a4] (.int 10 :: st) S iv Q) : am_R E d mX10_isTaken k n 6 [a0, a1, a2, a3, a4] st S iv Q := am_bipush dX10_isTaken_6 (by decide) h
theorem sX10_isTaken_8 {a0 a1 a2 a4 : Value} {x : Int32} (h : am_R E d mX10_isTaken k n 9 [a0, a1, a2, .int x, a4] (.int x :: st) S iv Q) : am_R E d mX10_isTaken k n 8 [a0, a1, a2, .int x, a4] st S iv Q := am_iload_n dX10_isTaken_8 rfl rfl h
theorem sX10_isTaken_9 {ls : List Value} {x y : Int32} (h : am_R E d mX10_isTaken k n 10 ls (.int (x + y) :: st) S iv Q) : am_R E d mX10_isTaken k n 9 ls (.int y :: .int x :: st) S iv Q := am_iadd dX10_isTaken_9 h
theorem sX10_isTaken_10 {ls : List Value} {x y : Int32} (kt : y ≤ x → am_R E d mX10_isTaken k n 62 ls st S iv Q) (kf : ¬ y ≤ x → am_R E d mX10_isTaken k n 13 ls st S iv Q) : am_R E d mX10_isTaken k n 10 ls (.int y :: .int x :: st) S iv Q := am_icmp_ge dX10_isTaken_10 (by decide) kt kf
theorem sX10_isTaken_13 {a0 a1 a2 a3 a4 : Value} (hv : am_rf a0 = true) (h : am_R E d mX10_isTaken k n 14 [a0, a1, a2, a3, a4] (a0 :: st) S iv Q) : am_R E d mX10_isTaken k n 13 [a0, a1, a2, a3, a4] st S iv Q := am_aload_n dX10_isTaken_13 rfl rfl hv h
theorem sX10_isTaken_14 {ls : List Value} {a b : Nat} (ha : S.1 a = some (.inl 10)) (hb : S.2.1 a 7 = some b) (h : am_R E d mX10_isTaken k n 17 ls (.ref b :: st) S iv Q) : am_R E d mX10_isTaken k n 14 ls (.ref a :: st) S iv Q := am_getR (ci := 10) dX10_isTaken_14 rfl rfl (by decide) wq_775 uq_10 rfl ha hb h
theorem sX10_isTaken_17 {a0 a1 a2 a3 : Value} {x : Int32} (h : am_R E d mX10_isTaken k n 19 [a0, a1, a2, a3, .int x] (.int x :: st) S iv Q) : am_R E d mX10_isTaken k n 17 [a0, a1, a2, a3, .int x] st S iv Q := am_iload dX10_isTaken_17 rfl h
theorem sX10_isTaken_19 {ls : List Value} {a m : Nat} {i : Int32} (ha : S.1 a = some (.inr (.int, m))) (hi : vp_in i m) (h : am_R E d mX10_isTaken k n 20 ls (.int (iv a i.toNatClampNeg) :: st) S iv Q) : am_R E d mX10_isTaken k n 19 ls (.int i :: .ref a :: st) S iv Q := am_iaload dX10_isTaken_19 ha hi h
theorem sX10_isTaken_20 {a0 a1 a3 a4 : Value} {x : Int32} (h : am_R E d mX10_isTaken k n 21 [a0, a1, .int x, a3, a4] (.int x :: st) S iv Q) : am_R E d mX10_isTaken k n 20 [a0, a1, .int x, a3, a4] st S iv Q := am_iload_n dX10_isTaken_20 rfl rfl h
theorem sX10_isTaken_21 {ls : List Value} {x y : Int32} (kt : ¬ x = y → am_R E d mX10_isTaken k n 56 ls st S iv Q) (kf : x = y → am_R E d mX10_isTaken k n 24 ls st S iv Q) : am_R E d mX10_isTaken k n 21 ls (.int y :: .int x :: st) S iv Q := am_icmp_ne dX10_isTaken_21 (by decide) kt kf
theorem sX10_isTaken_24 {a0 a2 a3 a4 : Value} {x : Int32} (h : am_R E d mX10_isTaken k n 25 [a0, .int x, a2, a3, a4] (.int x :: st) S iv Q) : am_R E d mX10_isTaken k n 24 [a0, .int x, a2, a3, a4] st S iv Q := am_iload_n dX10_isTaken_24 rfl rfl h
theorem sX10_isTaken_25 {a0 a1 a2 a3 a4 : Value} (hv : am_rf a0 = true) (h : am_R E d mX10_isTaken k n 26 [a0, a1, a2, a3, a4] (a0 :: st) S iv Q) : am_R E d mX10_isTaken k n 25 [a0, a1, a2, a3, a4] st S iv Q := am_aload_n dX10_isTaken_25 rfl rfl hv h
theorem sX10_isTaken_26 {ls : List Value} {a b : Nat} (ha : S.1 a = some (.inl 10)) (hb : S.2.1 a 6 = some b) (h : am_R E d mX10_isTaken k n 29 ls (.ref b :: st) S iv Q) : am_R E d mX10_isTaken k n 26 ls (.ref a :: st) S iv Q := am_getR (ci := 10) dX10_isTaken_26 rfl rfl (by decide) wq_774 uq_10 rfl ha hb h
theorem sX10_isTaken_29 {a0 a1 a2 a3 : Value} {x : Int32} (h : am_R E d mX10_isTaken k n 31 [a0, a1, a2, a3, .int x] (.int x :: st) S iv Q) : am_R E d mX10_isTaken k n 29 [a0, a1, a2, a3, .int x] st S iv Q := am_iload dX10_isTaken_29 rfl h
theorem sX10_isTaken_31 {ls : List Value} {a m : Nat} {i : Int32} (ha : S.1 a = some (.inr (.int, m))) (hi : vp_in i m) (h : am_R E d mX10_isTaken k n 32 ls (.int (iv a i.toNatClampNeg) :: st) S iv Q) : am_R E d mX10_isTaken k n 31 ls (.int i :: .ref a :: st) S iv Q := am_iaload dX10_isTaken_31 ha hi h
theorem sX10_isTaken_32 {ls : List Value} {x y : Int32} (kt : x < y → am_R E d mX10_isTaken k n 56 ls st S iv Q) (kf : ¬ x < y → am_R E d mX10_isTaken k n 35 ls st S iv Q) : am_R E d mX10_isTaken k n 32 ls (.int y :: .int x :: st) S iv Q := am_icmp_lt dX10_isTaken_32 (by decide) kt kf
theorem sX10_isTaken_35 {a0 a2 a3 a4 : Value} {x : Int32} (h : am_R E d mX10_isTaken k n 36 [a0, .int x, a2, a3, a4] (.int x :: st) S iv Q) : am_R E d mX10_isTaken k n 35 [a0, .int x, a2, a3, a4] st S iv Q := am_iload_n dX10_isTaken_35 rfl rfl h
theorem sX10_isTaken_36 {a0 a1 a2 a3 a4 : Value} (hv : am_rf a0 = true) (h : am_R E d mX10_isTaken k n 37 [a0, a1, a2, a3, a4] (a0 :: st) S iv Q) : am_R E d mX10_isTaken k n 36 [a0, a1, a2, a3, a4] st S iv Q := am_aload_n dX10_isTaken_36 rfl rfl hv h
theorem sX10_isTaken_37 {ls : List Value} {a b : Nat} (ha : S.1 a = some (.inl 10)) (hb : S.2.1 a 6 = some b) (h : am_R E d mX10_isTaken k n 40 ls (.ref b :: st) S iv Q) : am_R E d mX10_isTaken k n 37 ls (.ref a :: st) S iv Q := am_getR (ci := 10) dX10_isTaken_37 rfl rfl (by decide) wq_774 uq_10 rfl ha hb h
theorem sX10_isTaken_40 {a0 a1 a2 a3 : Value} {x : Int32} (h : am_R E d mX10_isTaken k n 42 [a0, a1, a2, a3, .int x] (.int x :: st) S iv Q) : am_R E d mX10_isTaken k n 40 [a0, a1, a2, a3, .int x] st S iv Q := am_iload dX10_isTaken_40 rfl h
theorem sX10_isTaken_42 {ls : List Value} {a m : Nat} {i : Int32} (ha : S.1 a = some (.inr (.int, m))) (hi : vp_in i m) (h : am_R E d mX10_isTaken k n 43 ls (.int (iv a i.toNatClampNeg) :: st) S iv Q) : am_R E d mX10_isTaken k n 42 ls (.int i :: .ref a :: st) S iv Q := am_iaload dX10_isTaken_42 ha hi h
theorem sX10_isTaken_43 {a0 a1 a2 a3 a4 : Value} (hv : am_rf a0 = true) (h : am_R E d mX10_isTaken k n 44 [a0, a1, a2, a3, a4] (a0 :: st) S iv Q) : am_R E d mX10_isTaken k n 43 [a0, a1, a2, a3, a4] st S iv Q := am_aload_n dX10_isTaken_43 rfl rfl hv h
theorem sX10_isTaken_44 {ls : List Value} {a b : Nat} (ha : S.1 a = some (.inl 10)) (hb : S.2.1 a 9 = some b) (h : am_R E d mX10_isTaken k n 47 ls (.ref b :: st) S iv Q) : am_R E d mX10_isTaken k n 44 ls (.ref a :: st) S iv Q := am_getR (ci := 10) dX10_isTaken_44 rfl rfl (by decide) wq_777 uq_10 rfl ha hb h
theorem sX10_isTaken_47 {a0 a1 a2 a3 : Value} {x : Int32} (h : am_R E d mX10_isTaken k n 49 [a0, a1, a2, a3, .int x] (.int x :: st) S iv Q) : am_R E d mX10_isTaken k n 47 [a0, a1, a2, a3, .int x] st S iv Q := am_iload dX10_isTaken_47 rfl h
theorem sX10_isTaken_49 {ls : List Value} {a m : Nat} {i : Int32} (ha : S.1 a = some (.inr (.int, m))) (hi : vp_in i m) (h : am_R E d mX10_isTaken k n 50 ls (.int (iv a i.toNatClampNeg) :: st) S iv Q) : am_R E d mX10_isTaken k n 49 ls (.int i :: .ref a :: st) S iv Q := am_iaload dX10_isTaken_49 ha hi h
theorem sX10_isTaken_50 {ls : List Value} {x y : Int32} (h : am_R E d mX10_isTaken k n 51 ls (.int (x + y) :: st) S iv Q) : am_R E d mX10_isTaken k n 50 ls (.int y :: .int x :: st) S iv Q := am_iadd dX10_isTaken_50 h
theorem sX10_isTaken_51 {ls : List Value} {x y : Int32} (kt : y < x → am_R E d mX10_isTaken k n 56 ls st S iv Q) (kf : ¬ y < x → am_R E d mX10_isTaken k n 54 ls st S iv Q) : am_R E d mX10_isTaken k n 51 ls (.int y :: .int x :: st) S iv Q := am_icmp_gt dX10_isTaken_51 (by decide) kt kf
theorem sX10_isTaken_54 {a0 a1 a2 a3 a4 : Value} (h : am_R E d mX10_isTaken k n 55 [a0, a1, a2, a3, a4] (.int 1 :: st) S iv Q) : am_R E d mX10_isTaken k n 54 [a0, a1, a2, a3, a4] st S iv Q := am_iconst dX10_isTaken_54 (by decide) h
theorem sX10_isTaken_55 {ls : List Value} {x : Int32} (hn : narrow .boolean (.int x) = .int x) (h : Q (.inl (some (.int x))) S iv) : am_R E d mX10_isTaken k n 55 ls [.int x] S iv Q := am_zreturn dX10_isTaken_55 rfl hn h
theorem sX10_isTaken_56 {a0 a1 a2 a3 : Value} {x : Int32} (h : am_R E d mX10_isTaken k n 59 [a0, a1, a2, a3, .int (x + 1)] st S iv Q) : am_R E d mX10_isTaken k n 56 [a0, a1, a2, a3, .int x] st S iv Q := am_iinc dX10_isTaken_56 rfl rfl (by decide) h
theorem sX10_isTaken_59 {ls : List Value} (h : am_R E d mX10_isTaken k n 4 ls st S iv Q) : am_R E d mX10_isTaken k n 59 ls st S iv Q := am_goto dX10_isTaken_59 (by decide) h
theorem sX10_isTaken_62 {a0 a1 a2 a3 a4 : Value} (h : am_R E d mX10_isTaken k n 63 [a0, a1, a2, a3, a4] (.int 0 :: st) S iv Q) : am_R E d mX10_isTaken k n 62 [a0, a1, a2, a3, a4] st S iv Q := am_iconst dX10_isTaken_62 (by decide) h
theorem sX10_isTaken_63 {ls : List Value} {x : Int32} (hn : narrow .boolean (.int x) = .int x) (h : Q (.inl (some (.int x))) S iv) : am_R E d mX10_isTaken k n 63 ls [.int x] S iv Q := am_zreturn dX10_isTaken_63 rfl hn h
end R13_Xm0
